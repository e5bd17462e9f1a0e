/-! the law's own walk: LW, the machine at pc of the law over the same abstract cells; the script's cell is 300 of the map, no cell of the world -/
def zE : xZ := ([], fun _ _ => none)
def LCx (G : xG) (b L : Nat) (xs : Nat → Int32) (ρ0 : Nat → Nat) (p : Program) (s : State) (m : MethodId) (meth : Method) (c : Code) : Prop :=
  lw_At p s m meth c b L xs ∧ va_K G.2.1 vwCl (xtys G) s ∧ xSt ρ0 (va_A [] s.heap.size) s s.heap ∧ ρ0 300 = b
def LW (G : xG) (b L : Nat) (xs : Nat → Int32) (kc kn pc : Nat) (Lc : List (Option Value)) (st : List Value) (z : xZ) (v : xS) : Prop :=
  ∀ (ρ0 : Nat → Nat) (p : Program) (e : Env) (s : State) (m : MethodId) (below : List Frame) (meth : Method) (c : Code), LCx G b L xs ρ0 p s m meth c →
  ∀ (ρ : Nat → Nat) (H : Heap) (locs : List Loc) (ls : Array Slot), xGr zE ρ0 z ρ → va_P G.2.1 vwCl (xws G ρ z v) H → va_D (va_A [] s.heap.size) (xws G ρ z v) → va_S (va_A [] s.heap.size) s.heap H locs → xLH ls 4 ρ Lc →
  W p G.1 e room_1 s m #[Value.ref b] below meth c H locs kc kn (lw_Z below #[Value.ref b] s) (F0 m pc ls (st.map (xtr ρ)))
theorem xgt_tbl {w : Cond} (h : w ∈ xgt) : w ∈ lw_tbl := (List.mem_filter.mp h).1
theorem lw_good {y' : MethodName} {cc' : ByteArray} {nL' : Nat} {ret' : Option FieldType} (h : Cond.code y' cc' nL' ret' ∈ xgt) : GoodIn lw_tbl (xw y' cc' nL' ret') := by
  intro w hw
  have h1 : w ∈ xgt := by
    rcases List.mem_cons.mp hw with rfl | hw
    · exact h
    · exact hw
  exact ⟨xgt_tbl h1, good_of_word (List.mem_filter.mp h1).2⟩
theorem nA {sz q : Nat} (h : q < sz) : ¬ va_A [] sz q := by
  rintro (⟨k, e, h1⟩ | h1)
  · simp at h1
  · omega
section LAWR
variable {G : xG} {b L : Nat} {xs : Nat → Int32} {kc kn pc : Nat} {Lc : List (Option Value)} {st st0 : List Value} {z : xZ} {v : xS}
theorem lAB {ρ : Nat → Nat} {s : State} {H : Heap} {locs : List Loc} (hD : va_D (va_A [] s.heap.size) (xws G ρ z v)) (hS : va_S (va_A [] s.heap.size) s.heap H locs) : ∀ q, va_A (xws G ρ z v) H.size q → va_A [] s.heap.size q := by
  intro q h
  rcases h with ⟨k, e, h⟩ | h
  · exact hD.2 k (q, e) h
  · exact Or.inr (Nat.le_trans hS.1 h)
theorem lPre {ρ0 ρ : Nat → Nat} {p : Program} {s U : State} {m : MethodId} {meth : Method} {c : Code} {H : Heap} {locs : List Loc} (C : LCx G b L xs ρ0 p s m meth c) (g : xGr zE ρ0 z ρ) (hP : va_P G.2.1 vwCl (xws G ρ z v) H) (hD : va_D (va_A [] s.heap.size) (xws G ρ z v)) (hS : va_S (va_A [] s.heap.size) s.heap H locs) (hU : U.heap = H) (hW : s.WarmedH U.vm) : xPre G z v ρ H.size U :=
  ⟨by rw [hU], by rw [hU]; exact hP, va_K.moved hW.alike C.2.1, hD.weaken (fun _ _ _ _ => trivial), C.2.2.1.call g.2.2 hS hU hW (lAB hD hS)⟩
theorem lcont {ρ : Nat → Nat} {mc' ms' : Nat} {p : Program} {e : Env} {s : State} {m : MethodId} {args a : Array Value} {below : List Frame} {meth : Method} {c : Code} {H : Heap} {locs : List Loc} {ls : Array Slot} {stk rest : List Value} {Q' : Option Value → xZ → xS → Prop} {QQ : State → Prop}
    (hD : va_D (va_A [] s.heap.size) (xws G ρ z v)) (hS : va_S (va_A [] s.heap.size) s.heap H locs)
    (hr : va_Run p G.1 e room_1 s m args below meth c H locs kc kn mc' ms' (F0 m pc ls stk) rest (xPost G z v ρ H.size Q' a) (va_A (xws G ρ z v) H.size))
    (kk : ∀ (r : Option Value) (z1 : xZ) (v1 : xS) (ρ1 : Nat → Nat) (H1 : Heap) (locs1 : List Loc), Q' r z1 v1 → xGr z ρ z1 ρ1 → va_P G.2.1 vwCl (xws G ρ1 z1 v1) H1 → va_D (va_A [] s.heap.size) (xws G ρ1 z1 v1) → va_S (va_A [] s.heap.size) s.heap H1 locs1 →
      W p G.1 e room_1 s m args below meth c H1 locs1 (kc + mc') (kn + ms') QQ (F0 m (pc + 3) ls ((r.map (xtr ρ1)).toList ++ rest))) :
    W p G.1 e room_1 s m args below meth c H locs kc kn QQ (F0 m pc ls stk) := by
  intro T hT X
  obtain ⟨w, st₀, t, T', LL, h0, X', hL, e1, e2, ⟨⟨r, z1, v1, ρ1, hv, hq, hg, hP1, hD1⟩, hz, hk⟩, stp⟩ := hr T hT X
  cases hv
  rw [h0] at hz hk
  have hAB := lAB (v := v) (z := z) hD hS
  obtain ⟨t2, a1, b1⟩ := kk r z1 v1 ρ1 T'.heap (locs ++ LL) hq hg (by rw [e1]; exact hP1) (hD1.weaken (fun k q _ h => hAB q.1 h))
    ⟨Nat.le_trans hS.1 (by rw [e1]; exact hz), fun q h1 h2 => by rw [e1, hk q (Nat.lt_of_lt_of_le h1 hS.1) (fun h => h2 (hAB q h))]; exact hS.2.1 q h1 h2, fun q hq => by
      rcases List.mem_append.mp hq with h | h
      · exact hS.2.2 q h
      · exact hAB _ (hL q h)⟩ T' rfl X'
  exact ⟨t2, stp t2 a1, b1⟩
theorem lroom {d' nL' mc' ms' : Nat} (hd : d' ≤ 1000) (hn : nL' ≤ 45) : (xrm d' mc' ms').frames + 1 ≤ room_1.frames ∧ 8 + (nL' + 11) + (xrm d' mc' ms').locals ≤ room_1.locals := by
  constructor
  · show d' + 1 ≤ 2048
    omega
  · show 8 + (nL' + 11) + 64 * d' ≤ 84000
    omega
/-- where a value stays what it was, over a call that may make cells -/
def stays (z z1 : xZ) (w : Value) : Prop := ∀ x, w = .ref x → x ∈ z.1 ∨ x ∉ z1.1
theorem stays_tr {ρ ρ1 : Nat → Nat} {z1 : xZ} (hg : xGr z ρ z1 ρ1) {w : Value} (hw : stays z z1 w) : xtr ρ1 w = xtr ρ w := by
  cases w with
  | ref x => show Value.ref _ = _; rw [hg.2.1 x (hw x rfl)]; rfl
  | _ => rfl
theorem LW_call {d' mc' ms' idx a c : Nat} {y' : MethodName} {cc' : ByteArray} {nL' : Nat} {ret' : Option FieldType} {as : List Value} {Q' : Option Value → xZ → xS → Prop} (hd : decode cL_law pc = .ok (.invokevirtual idx, 3)) (ha : xin z a c (xcN c)) (hc : c < 7) (hy : xcn c = y'.cls) (hm : xmv y' cc' nL' ret' as.length) (hi : Cond.instanceMethod y' ∈ xgt ∧ Cond.selects y'.cls y' y' ∈ xgt) (hlk : Cond.methodLink RL idx y' ∈ xgt) (hdd : d' ≤ 1000) (hst : (st.map fun w => w.category).sum ≤ 8) (h0 : as.reverse ++ .ref a :: st = st0) (h1 : kc + mc' ≤ 600000) (h2 : kn + ms' ≤ 7302250)
    (hok : Ok G d' mc' ms' y' cc' nL' ret' (.ref a :: as) z v Q') (hlv : ∀ r z1 v1, Q' r z1 v1 → (∀ w, w ∈ st → stays z z1 w) ∧ ∀ w, some w ∈ Lc → stays z z1 w)
    (kk : ∀ (r : Option Value) (z1 : xZ) (v1 : xS), Q' r z1 v1 → LW G b L xs (kc + mc') (kn + ms') (pc + 3) Lc (r.toList ++ st) z1 v1) : LW G b L xs kc kn pc Lc st0 z v := by
  subst h0
  intro ρ0 p e s m below meth c' C ρ H locs ls g hP hD hS hl
  obtain ⟨q, -, hq⟩ := xws_at (G := G) (ρ := ρ) (v := v) ha.1
  rw [xE_obj ha.2 hc] at hq
  have C0 := C
  obtain ⟨⟨hx, hb, hr, hml, hown, hts, hX, hbl, hlk2, hgv⟩, hK, hSt, h300⟩ := C
  have ht : ∀ {w : Cond}, w ∈ xgt → w.before #[Value.ref b] s = true := fun h => hts _ (xgt_tbl h)
  have hrec := va_recv hK hP (xcl_at hc) hq
  rw [hy] at hrec
  have hrun := va_runV (l := G.1) (e := e) (R := room_1) (below := below) (meth := meth) (locs := locs) (cells := kc) (slots := kn) (g := F0 m pc ls ((as.reverse ++ .ref a :: st).map (xtr ρ))) (As := as.map (xtr ρ)) (rest := st.map (xtr ρ)) (b := ρ a) (C := y'.cls) ⟨hx, hb, hml, hown, hts⟩ (hok ρ H.size)
    ⟨callB_of (R := room_1) as.length hts (lw_good hm.1.1) rfl rfl rfl (ht hm.1.2) (ht hlk) hm.2.2 (lroom hdd hm.2.1), ht hi.1, ht hi.2⟩
    ⟨xPre.blind, hrec, fun U hU hW => ⟨rfl, lPre C0 g hP hD hS hU hW⟩⟩ rfl (by simp) hl.1 (by simp [xtr_ref, List.map_reverse]) (lv_room (xstk ρ as st hst)) hd ⟨h1, h2⟩
  refine lcont hD hS hrun (fun r z1 v1 ρ1 H1 locs1 hq1 hg1 hP1 hD1 hS1 => ?_)
  have hw := hlv r z1 v1 hq1
  have k0 := kk r z1 v1 hq1 ρ0 p e s m below meth c' C0 ρ1 H1 locs1 ls (g.trans hg1) hP1 hD1 hS1 (by unfold xLH; rw [xprs_congr Lc 0 (fun w h => stays_tr hg1 (hw.2 w h))]; exact hl)
  have e3 : (r.toList ++ st).map (xtr ρ1) = (r.map (xtr ρ1)).toList ++ st.map (xtr ρ) := by
    rw [List.map_append, map_congr_ref (fun w h => stays_tr hg1 (hw.1 w h))]
    cases r <;> simp
  rw [e3] at k0
  exact k0
theorem LW_vI {QI : Int32 → xS → Prop} {d' idx a c : Nat} {y' : MethodName} {cc' : ByteArray} {nL' : Nat} {ret' : Option FieldType} {as : List Value} (hd : decode cL_law pc = .ok (.invokevirtual idx, 3)) (ha : xin z a c (xcN c)) (hc : c < 7) (hy : xcn c = y'.cls) (hm : xmv y' cc' nL' ret' as.length) (hi : Cond.instanceMethod y' ∈ xgt ∧ Cond.selects y'.cls y' y' ∈ xgt) (hlk : Cond.methodLink RL idx y' ∈ xgt) (hdd : d' ≤ 1000) (hst : (st.map fun w => w.category).sum ≤ 8) (h0 : as.reverse ++ .ref a :: st = st0) (h1 : kc ≤ 600000) (h2 : kn ≤ 7302250)
    (hok : OI G d' y' cc' nL' ret' (.ref a :: as) z v QI) (kk : ∀ (i : Int32) (v1 : xS), QI i v1 → LW G b L xs kc kn (pc + 3) Lc (.int i :: st) z v1) : LW G b L xs kc kn pc Lc st0 z v :=
  LW_call hd ha hc hy hm hi hlk hdd hst h0 h1 h2 hok (fun r z1 v1 q => by rw [q.1]; exact ⟨fun w _ x _ => Classical.em _, fun w _ x _ => Classical.em _⟩) (fun r z1 v1 q => by
    obtain ⟨e1, i, e2, e3⟩ := q
    subst e1 e2
    exact kk i v1 e3)
theorem LW_vL {QI : Int64 → xS → Prop} {d' idx a c : Nat} {y' : MethodName} {cc' : ByteArray} {nL' : Nat} {ret' : Option FieldType} {as : List Value} (hd : decode cL_law pc = .ok (.invokevirtual idx, 3)) (ha : xin z a c (xcN c)) (hc : c < 7) (hy : xcn c = y'.cls) (hm : xmv y' cc' nL' ret' as.length) (hi : Cond.instanceMethod y' ∈ xgt ∧ Cond.selects y'.cls y' y' ∈ xgt) (hlk : Cond.methodLink RL idx y' ∈ xgt) (hdd : d' ≤ 1000) (hst : (st.map fun w => w.category).sum ≤ 8) (h0 : as.reverse ++ .ref a :: st = st0) (h1 : kc ≤ 600000) (h2 : kn ≤ 7302250)
    (hok : OL G d' y' cc' nL' ret' (.ref a :: as) z v QI) (kk : ∀ (i : Int64) (v1 : xS), QI i v1 → LW G b L xs kc kn (pc + 3) Lc (.long i :: st) z v1) : LW G b L xs kc kn pc Lc st0 z v :=
  LW_call hd ha hc hy hm hi hlk hdd hst h0 h1 h2 hok (fun r z1 v1 q => by rw [q.1]; exact ⟨fun w _ x _ => Classical.em _, fun w _ x _ => Classical.em _⟩) (fun r z1 v1 q => by
    obtain ⟨e1, i, e2, e3⟩ := q
    subst e1 e2
    exact kk i v1 e3)
theorem LW_aload {j : Fin 4} {i : Nat} {x : Nat} (hd : decode cL_law pc = .ok (.aload_n j, 1)) (hi : (j : Nat) = i) (hL : Lc[i]? = some (some (.ref x))) (k : LW G b L xs kc kn (pc + 1) Lc (.ref x :: st) z v) : LW G b L xs kc kn pc Lc st z v := by
  intro ρ0 p e s m below meth c' C ρ H locs ls g hP hD hS hl
  exact lv_aload_n C.1.1 C.1.2.1 hd hi (hl.at hL) (k ρ0 p e s m below meth c' C ρ H locs ls g hP hD hS hl)
/-- script[i + k] -/
theorem LW_arg {i k : Nat} {n : Int} (hd0 : decode cL_law pc = .ok (.aload_n 0, 1)) (hd1 : decode cL_law (pc + 1) = .ok (.iload_n 3, 1)) (hd2 : decode cL_law (pc + 2) = .ok (.iconst n, 1)) (hd3 : decode cL_law (pc + 3) = .ok (.iadd, 1)) (hd4 : decode cL_law (pc + 4) = .ok (.iaload, 1)) (h300 : 300 ∉ z.1) (hk : Int32.ofInt n = nI k) (hL0 : Lc[0]? = some (some (.ref 300))) (hL3 : Lc[3]? = some (some (.int (nI i)))) (hik : i + k < L) (hL : L ≤ 384)
    (kk : LW G b L xs kc kn (pc + 5) Lc (.int (xs (i + k)) :: st) z v) : LW G b L xs kc kn pc Lc st z v := by
  intro ρ0 p e s m below meth c' C ρ H locs ls g hP hD hS hl
  have k0 := kk ρ0 p e s m below meth c' C ρ H locs ls g hP hD hS hl
  obtain ⟨⟨hx, hb, hr, hml, hown, hts, hX, hbl, hlk2, hgv⟩, hK, hSt, h30⟩ := C
  have hρ : ρ 300 = b := (g.2.1 300 (Or.inr h300)).trans h30
  have hl0 := hl.at hL0
  rw [xtr_ref, hρ] at hl0
  have hl3 := hl.at hL3
  refine lv_aload_n hx hb hd0 rfl hl0 ?_
  refine lv_iload_n hx hb hd1 rfl hl3 ?_
  refine lv_iconst (v := nI k) hx hb hd2 hk ?_
  refine lv_iadd hx hb hd3 ?_
  rw [nI_add]
  refine va_sld hx hb hX hbl (nA hbl) hS (vpN hik (by omega)) hd4 ?_
  rw [clN (by omega)]
  exact k0
theorem LW_eq {x y : Int32} {off : Int} (hd : decode cL_law pc = .ok (.if_icmp .eq off, 3)) (ht : (pc : Int) + off = ((1466 : Nat) : Int)) (he : y = x) (k : LW G b L xs kc kn 1466 Lc st z v) : LW G b L xs kc kn pc Lc (.int y :: .int x :: st) z v := by
  intro ρ0 p e s m below meth c' C ρ H locs ls g hP hD hS hl
  exact lv_icmp_eq C.1.1 C.1.2.1 hd ht (fun _ => k ρ0 p e s m below meth c' C ρ H locs ls g hP hD hS hl) (fun q => absurd he.symm q)
theorem LW_leq {x y : Int64} {off : Int} (hd0 : decode cL_law pc = .ok (.lcmp, 1)) (hd : decode cL_law (pc + 1) = .ok (.ifCond .eq off, 3)) (ht : ((pc + 1 : Nat) : Int) + off = ((1466 : Nat) : Int)) (he : y = x) (k : LW G b L xs kc kn 1466 Lc st z v) : LW G b L xs kc kn pc Lc (.long y :: .long x :: st) z v := by
  intro ρ0 p e s m below meth c' C ρ H locs ls g hP hD hS hl
  subst he
  refine W.lcmp C.1.1 C.1.2.1 hd0 ?_
  have e0 : lg_cmp y y = 0 := by unfold lg_cmp; simp
  rw [e0]
  exact lv_if_eq C.1.1 C.1.2.1 hd ht (fun _ => k ρ0 p e s m below meth c' C ρ H locs ls g hP hD hS hl) (fun q => absurd rfl q)
/-- i += 6, and back -/
theorem LW_next {i : Nat} (k : LW G b L xs kc kn 18 [some (.ref 300), some (.ref 0), some (.ref 200), some (.int (nI (i + 6)))] [] z v) : LW G b L xs kc kn 1466 [some (.ref 300), some (.ref 0), some (.ref 200), some (.int (nI i))] [] z v := by
  intro ρ0 p e s m below meth c' C ρ H locs ls g hP hD hS hl
  obtain ⟨q, hq⟩ := List.getElem?_of_mem ((xprs_mem (ρ := ρ) [some (.ref 300), some (.ref 0), some (.ref 200), some (.int (nI i))] 0 (3, .int (nI i))).mpr ⟨3, .int (nI i), rfl, by simp [xtr]⟩)
  refine lv_iinc (v := nI (i + 6)) C.1.1 C.1.2.1 dL_law_1466 hl hq ((show nI i + Int32.ofInt 6 = nI i + nI 6 from rfl).trans (nI_add i 6)) (by decide) rfl (fun ls' hl' => ?_)
  refine lv_goto (tgt := 18) C.1.1 C.1.2.1 dL_law_1469 (by decide) ?_
  exact k ρ0 p e s m below meth c' C ρ H locs ls' g hP hD hS (xLH.of1 (v := .int (nI (i + 6))) hl')
/-- the law's end -/
theorem LW_end (h1 : kc ≤ 600000) (h2 : kn ≤ 7302250) : LW G b L xs kc kn 1472 Lc [] z v := by
  intro ρ0 p e s m below meth c' C ρ H locs ls g hP hD hS hl
  obtain ⟨⟨hx, hb, hr, hml, hown, hts, hX, hbl, hlk2, hgv⟩, hK, hSt, h30⟩ := C
  refine lv_iconst (v := 1) hx hb dL_law_1472 (by decide) ?_
  refine va_forget (fun q hq => ?_) ?_
  · rcases hS.2.2 q hq with ⟨k, e, h⟩ | h
    · simp at h
    · exact h
  refine W.widen h1 h2 ?_
  exact lw_ret hx hb hr hlk2 dL_law_1473
/-- the loop's head -/
def lawT (k : Nat) : Nat := ([228, 261, 304, 337, 360, 423, 446, 479, 522, 545, 568, 591, 624, 657, 680, 713, 736, 759, 782, 805, 828, 871, 894, 917, 940, 963, 996, 1049, 1072, 1125, 1148, 1181, 1204, 1217, 1230, 1263, 1296, 1319, 1352, 1365, 1379, 1393, 1416, 1429, 1452] : List Nat).getD k 0
theorem lawT_ok : ∀ k, k < 45 → ∃ off : Int, (#[195, 228, 271, 304, 327, 390, 413, 446, 489, 512, 535, 558, 591, 624, 647, 680, 703, 726, 749, 772, 795, 838, 861, 884, 907, 930, 963, 1016, 1039, 1092, 1115, 1148, 1171, 1184, 1197, 1230, 1263, 1286, 1319, 1332, 1346, 1360, 1383, 1396, 1419] : Array Int)[k]? = some off ∧ ((33 : Nat) : Int) + off = ((lawT k : Nat) : Int) := by
  intro k hk
  have h : ∀ k, k < 45 → (#[195, 228, 271, 304, 327, 390, 413, 446, 489, 512, 535, 558, 591, 624, 647, 680, 703, 726, 749, 772, 795, 838, 861, 884, 907, 930, 963, 1016, 1039, 1092, 1115, 1148, 1171, 1184, 1197, 1230, 1263, 1286, 1319, 1332, 1346, 1360, 1383, 1396, 1419] : Array Int)[k]? = some (((lawT k : Nat) : Int) - 33) := by decide +kernel
  exact ⟨_, h k hk, by omega⟩
theorem LW_head {i : Nat} (h300 : 300 ∉ z.1) (hL : L ≤ 384) (hi : i ≤ 400) (h1 : kc ≤ 600000) (h2 : kn ≤ 7302250)
    (kcase : i + 6 ≤ L → ∀ k, k < 45 → LW G b L xs kc kn (lawT k) [some (.ref 300), some (.ref 0), some (.ref 200), some (.int (nI i))] [] z v)
    (kdef : i + 6 ≤ L → LW G b L xs kc kn 1466 [some (.ref 300), some (.ref 0), some (.ref 200), some (.int (nI i))] [] z v) : LW G b L xs kc kn 18 [some (.ref 300), some (.ref 0), some (.ref 200), some (.int (nI i))] [] z v := by
  intro ρ0 p e s m below meth c' C ρ H locs ls g hP hD hS hl
  have C0 := C
  obtain ⟨⟨hx, hb, hr, hml, hown, hts, hX, hbl, hlk2, hgv⟩, hK, hSt, h30⟩ := C
  have hρ : ρ 300 = b := (g.2.1 300 (Or.inr h300)).trans h30
  have hl0 := hl.at (i := 0) (v := .ref 300) rfl
  rw [xtr_ref, hρ] at hl0
  have hl3 := hl.at (i := 3) (v := .int (nI i)) rfl
  refine lv_iload_n hx hb dL_law_18 rfl hl3 ?_
  refine lv_aload_n hx hb dL_law_19 rfl hl0 ?_
  refine va_slen hx hb hX hbl (nA hbl) hS dL_law_20 ?_
  refine lv_bipush (v := nI 6) hx hb dL_law_21 (by decide) ?_
  refine lv_isub hx hb dL_law_23 ?_
  have e6 : (nI L - nI 6).toInt = (L : Int) - 6 := by
    have h := i32sub (x := nI L) (y := nI 6) (by rw [nIi (by omega), nIi (by omega)]; omega) (by rw [nIi (by omega), nIi (by omega)]; omega)
    rw [nIi (n := L) (by omega), nIi (n := 6) (by omega)] at h
    omega
  refine lv_icmp_gt (tgt := 1472) hx hb dL_law_24 (by decide) (fun c => ?_) (fun c => ?_)
  · exact LW_end h1 h2 ρ0 p e s m below meth c' C0 ρ H locs ls g hP hD hS hl
  have hle : i + 6 ≤ L := by
    have c2 : ¬ (nI L - nI 6) < nI i := c
    rw [i32lt, e6, nIi (by omega)] at c2
    omega
  refine lv_aload_n hx hb dL_law_27 rfl hl0 ?_
  refine lv_iload_n hx hb dL_law_28 rfl hl3 ?_
  refine va_sld hx hb hX hbl (nA hbl) hS (vpN (show i < L by omega) (by omega)) dL_law_29 ?_
  refine lv_bipush (v := nI 63) hx hb dL_law_30 (by decide) ?_
  refine lv_iand hx hb dL_law_32 ?_
  refine lv_topi (fun y ey => ?_)
  by_cases hy : y.toInt < 0 ∨ 44 < y.toInt
  · exact lv_tableOut (tgt := 1466) hx hb dL_law_33 hy (by decide) (kdef hle ρ0 p e s m below meth c' C0 ρ H locs ls g hP hD hS hl)
  · have hk : y.toInt.toNat < 45 := by omega
    obtain ⟨off, ho, ht⟩ := lawT_ok y.toInt.toNat hk
    exact lv_tableIn hx hb dL_law_33 (fun q => hy (Or.inl q)) (fun q => hy (Or.inr q)) (by rw [show y.toInt - 0 = y.toInt by omega]; exact ho) ht (kcase hle _ hk ρ0 p e s m below meth c' C0 ρ H locs ls g hP hD hS hl)
end LAWR
