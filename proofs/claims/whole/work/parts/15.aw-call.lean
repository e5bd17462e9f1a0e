/-! the abstract machine: calls, arraycopy, Math; a method's contract out of its walk -/
section AWC
variable {G : xG} {d mc ms : Nat} {y : MethodName} {cc : ByteArray} {nL : Nat} {ret : Option FieldType} {own : String} {kc kn pc : Nat} {L : List (Option Value)} {st : List Value} {z : xZ} {v : xS} {Q : Option Value → xZ → xS → Prop}
theorem xPre.blind {as : List Value} {ρ : Nat → Nat} {sz : Nat} : FrameBlind (va_Pc as (xPre G z v ρ sz)) := by
  intro a U g mk q
  obtain ⟨q0, q1, qP, qK, qD, qS⟩ := q
  refine ⟨q0, q1, qP, va_K.moved (u := U) (U := U.calling g mk a) (Vm.Alike.refl U.vm) qK, qD, fun i hi => ⟨(qS.1 i hi).1.moved (u := U) (U := U.calling g mk a) (Vm.Alike.refl U.vm), (qS.1 i hi).2.moved (u := U) (U := U.calling g mk a) (Vm.Alike.refl U.vm)⟩, fun w hw => ?_⟩
  have h0 := qS.2 w hw
  simp only [xNest, List.mem_cons, List.not_mem_nil, or_false] at hw
  rcases hw with rfl | rfl | rfl | rfl | rfl | rfl | rfl | rfl
  · exact va_Nw.same rfl (u := U) (U := U.calling g mk a) rfl h0
  · exact va_Nw.same rfl (u := U) (U := U.calling g mk a) rfl h0
  · exact va_Nw.same rfl (u := U) (U := U.calling g mk a) rfl h0
  · exact va_Nw.same rfl (u := U) (U := U.calling g mk a) rfl h0
  · exact va_Nw.same rfl (u := U) (U := U.calling g mk a) rfl h0
  · exact va_Nw.same rfl (u := U) (U := U.calling g mk a) rfl h0
  · exact over_moved (u := U) (E := U.calling g mk a) (Vm.Alike.refl U.vm) h0
  · exact va_AO.moved (u := U) (U := U.calling g mk a) (Vm.Alike.refl U.vm) h0
/-- what of a method's name is in the tables -/
def xmv (y : MethodName) (cc : ByteArray) (nL : Nat) (ret : Option FieldType) (n : Nat) : Prop :=
  (Cond.code y cc nL ret ∈ xgt ∧ Cond.initialized y.cls ∈ xgt) ∧ nL ≤ 45 ∧ y.cls ≠ "java/lang/invoke/MethodHandle" ∧ y.cls ≠ "java/lang/invoke/VarHandle" ∧ (parseMethodDescriptor y.desc).map (fun d => d.parameters.length) = some n
theorem xw_good (y y' : MethodName) (cc cc' : ByteArray) (nL nL' : Nat) (ret ret' : Option FieldType) (h : Cond.code y' cc' nL' ret' ∈ xgt) : GoodIn (xw y cc nL ret) (xw y' cc' nL' ret') := by
  intro w hw
  have h1 : w ∈ xgt := by
    rcases List.mem_cons.mp hw with rfl | hw
    · exact h
    · exact hw
  exact ⟨List.mem_cons_of_mem _ h1, good_of_word (List.mem_filter.mp h1).2⟩
theorem xAB {z0 : xZ} {v0 : xS} {ρ0 ρ : Nat → Nat} {sz : Nat} {s : State} {H : Heap} {locs : List Loc} (hsz : s.heap.size = sz) (hD : va_D (va_A (xws G ρ0 z0 v0) sz) (xws G ρ z v)) (hS : va_S (va_A (xws G ρ0 z0 v0) sz) s.heap H locs) : ∀ q, va_A (xws G ρ z v) H.size q → va_A (xws G ρ0 z0 v0) sz q := by
  intro q h
  rcases h with ⟨k, e, h⟩ | h
  · exact hD.2 k (q, e) h
  · exact Or.inr (Nat.le_trans (Nat.le_of_eq hsz.symm) (Nat.le_trans hS.1 h))
theorem xPre.at {z0 : xZ} {v0 : xS} {ρ0 ρ : Nat → Nat} {sz : Nat} {p : Program} {s U : State} {m : MethodId} {args : Array Value} {meth : Method} {c : Code} {H : Heap} {locs : List Loc} (C : xC G y cc nL ret own z0 v0 ρ0 sz p s m args meth c) (g : xGr z0 ρ0 z ρ) (hP : va_P G.2.1 vwCl (xws G ρ z v) H) (hD : va_D (va_A (xws G ρ0 z0 v0) sz) (xws G ρ z v)) (hS : va_S (va_A (xws G ρ0 z0 v0) sz) s.heap H locs) (hU : U.heap = H) (hW : s.WarmedH U.vm) : xPre G z v ρ H.size U := by
  obtain ⟨-, -, -, -, -, -, -, -, hsz, hK, hSt⟩ := C
  exact ⟨by rw [hU], by rw [hU]; exact hP, va_K.moved hW.alike hK, hD.weaken (fun _ _ _ _ => trivial), hSt.call g.2.2 hS hU hW (xAB hsz hD hS)⟩
/-- behind a call -/
theorem xcont {z0 : xZ} {v0 : xS} {ρ0 ρ : Nat → Nat} {sz mc' ms' : Nat} {p : Program} {e : Env} {s : State} {m : MethodId} {args a : Array Value} {below : List Frame} {meth : Method} {c : Code} {H : Heap} {locs : List Loc} {ls : Array Slot} {st0 rest : List Value} {Q' : Option Value → xZ → xS → Prop} {QQ : State → Prop}
    (hsz : s.heap.size = sz) (hD : va_D (va_A (xws G ρ0 z0 v0) sz) (xws G ρ z v)) (hS : va_S (va_A (xws G ρ0 z0 v0) sz) s.heap H locs)
    (hr : va_Run p G.1 e (xrm d mc ms) s m args below meth c H locs kc kn mc' ms' (F0 m pc ls st0) rest (xPost G z v ρ H.size Q' a) (va_A (xws G ρ z v) H.size))
    (kk : ∀ (r : Option Value) (z1 : xZ) (v1 : xS) (ρ1 : Nat → Nat) (H1 : Heap) (locs1 : List Loc), Q' r z1 v1 → xGr z ρ z1 ρ1 → va_P G.2.1 vwCl (xws G ρ1 z1 v1) H1 → va_D (va_A (xws G ρ0 z0 v0) sz) (xws G ρ1 z1 v1) → va_S (va_A (xws G ρ0 z0 v0) sz) s.heap H1 locs1 →
      W p G.1 e (xrm d mc ms) s m args below meth c H1 locs1 (kc + mc') (kn + ms') QQ (F0 m (pc + 3) ls ((r.map (xtr ρ1)).toList ++ rest))) :
    W p G.1 e (xrm d mc ms) s m args below meth c H locs kc kn QQ (F0 m pc ls st0) := by
  intro T hT X
  obtain ⟨w, st₀, t, T', LL, h0, X', hL, e1, e2, ⟨⟨r, z1, v1, ρ1, hv, hq, hg, hP1, hD1⟩, hz, hk⟩, stp⟩ := hr T hT X
  cases hv
  rw [h0] at hz hk
  have hAB := xAB (v := v) (z := z) hsz hD hS
  obtain ⟨t2, a1, b1⟩ := kk r z1 v1 ρ1 T'.heap (locs ++ LL) hq hg (by rw [e1]; exact hP1) (hD1.weaken (fun k q _ h => hAB q.1 h))
    ⟨Nat.le_trans hS.1 (by rw [e1]; exact hz), fun q h1 h2 => by rw [e1, hk q (Nat.lt_of_lt_of_le h1 hS.1) (fun h => h2 (hAB q h))]; exact hS.2.1 q h1 h2, fun q hq => by
      rcases List.mem_append.mp hq with h | h
      · exact hS.2.2 q h
      · exact hAB _ (hL q h)⟩ T' rfl X'
  exact ⟨t2, stp t2 a1, b1⟩
theorem xroom {d d' nL' : Nat} (hd : d' < d) (hn : nL' ≤ 45) {mc ms mc' ms' : Nat} : (xrm d' mc' ms').frames + 1 ≤ (xrm d mc ms).frames ∧ 8 + (nL' + 11) + (xrm d' mc' ms').locals ≤ (xrm d mc ms).locals := by
  refine ⟨hd, ?_⟩
  show 8 + (nL' + 11) + 64 * d' ≤ 64 * d
  omega
theorem xstk (ρ : Nat → Nat) (as st : List Value) (hst : (st.map fun w => w.category).sum ≤ 8) : ((st.map (xtr ρ)).map fun w => w.category).sum ≤ 8 := by
  rw [List.map_map]
  rw [show ((fun w : Value => w.category) ∘ xtr ρ) = (fun w : Value => w.category) from funext fun w => xtr_cat ρ w]
  exact hst
/-- a call of an instance's method that makes no cells: the cells stay, their contents come to v1 -/
theorem AW_callV {d' idx a c : Nat} {y' : MethodName} {cc' : ByteArray} {nL' : Nat} {ret' : Option FieldType} {as : List Value} {Q' : Option Value → xS → Prop} (hd : decode cc pc = .ok (.invokevirtual idx, 3)) (ha : xin z a c (xcN c)) (hc : c < 7) (hy : xcn c = y'.cls) (hm : xmv y' cc' nL' ret' as.length) (hi : Cond.instanceMethod y' ∈ xgt ∧ Cond.selects y'.cls y' y' ∈ xgt) (hlk : Cond.methodLink own idx y' ∈ xgt) (hdd : d' < d) (hst : (st.map fun w => w.category).sum ≤ 8) (h1 : kc ≤ mc) (h2 : kn ≤ ms)
    (hok : Ok G d' 0 0 y' cc' nL' ret' (.ref a :: as) z v (fun r z1 v1 => z1 = z ∧ Q' r v1))
    (kk : ∀ (r : Option Value) (v1 : xS), Q' r v1 → AW G d mc ms y cc nL ret own kc kn (pc + 3) L (r.toList ++ st) z v1 Q) : AW G d mc ms y cc nL ret own kc kn pc L (as.reverse ++ .ref a :: st) z v Q := by
  intro z0 v0 ρ0 sz p e s m args below meth c' C ρ H locs ls g hP hD hS hl
  obtain ⟨q, -, hq⟩ := xws_at (G := G) (ρ := ρ) (v := v) ha.1
  rw [xE_obj ha.2 hc] at hq
  have C0 := C
  obtain ⟨hx, hb, hr, hml, hown, hts, hlk2, hnm, hsz, hK, hSt⟩ := C
  have ht : ∀ {w : Cond}, w ∈ xgt → w.before args s = true := fun h => hts _ (List.mem_cons_of_mem _ h)
  have hrec := va_recv hK hP (xcl_at hc) hq
  rw [hy] at hrec
  have hrun := va_runV (l := G.1) (e := e) (R := xrm d mc ms) (below := below) (meth := meth) (locs := locs) (cells := kc) (slots := kn) (g := F0 m pc ls ((as.reverse ++ .ref a :: st).map (xtr ρ))) (As := as.map (xtr ρ)) (rest := st.map (xtr ρ)) (b := ρ a) (C := y'.cls) ⟨hx, hb, hml, hown, hts⟩ (hok ρ H.size)
    ⟨callB_of (R := xrm d mc ms) as.length hts (xw_good _ _ _ _ _ _ _ _ hm.1.1) rfl rfl rfl (ht hm.1.2) (ht hlk) hm.2.2 (xroom hdd hm.2.1), ht hi.1, ht hi.2⟩
    ⟨xPre.blind, hrec, fun U hU hW => ⟨rfl, xPre.at C0 g hP hD hS hU hW⟩⟩ rfl (by simp) hl.1 (by simp [xtr_ref, List.map_reverse]) (lv_room (xstk ρ as st hst)) hd ⟨h1, h2⟩
  refine xcont hsz hD hS hrun (fun r z1 v1 ρ1 H1 locs1 hq1 hg1 hP1 hD1 hS1 => ?_)
  obtain ⟨e1, hq2⟩ := hq1
  subst e1
  have e2 := hg1.eq rfl
  subst e2
  have k0 := kk r v1 hq2 z0 v0 ρ0 sz p e s m args below meth c' C0 ρ1 H1 locs1 ls g hP1 hD1 hS1 hl
  have e3 : (r.toList ++ st).map (xtr ρ1) = (r.map (xtr ρ1)).toList ++ st.map (xtr ρ1) := by cases r <;> simp
  rw [e3] at k0
  exact k0
theorem AW_callS {d' idx : Nat} {y' : MethodName} {cc' : ByteArray} {nL' : Nat} {ret' : Option FieldType} {as : List Value} {Q' : Option Value → xS → Prop} (hd : decode cc pc = .ok (.invokestatic idx, 3)) (hm : xmv y' cc' nL' ret' as.length) (hi : Cond.static y' ∈ xgt) (hlk : Cond.methodLink own idx y' ∈ xgt) (hdd : d' < d) (hst : (st.map fun w => w.category).sum ≤ 8) (h1 : kc ≤ mc) (h2 : kn ≤ ms)
    (hok : Ok G d' 0 0 y' cc' nL' ret' as z v (fun r z1 v1 => z1 = z ∧ Q' r v1))
    (kk : ∀ (r : Option Value) (v1 : xS), Q' r v1 → AW G d mc ms y cc nL ret own kc kn (pc + 3) L (r.toList ++ st) z v1 Q) : AW G d mc ms y cc nL ret own kc kn pc L (as.reverse ++ st) z v Q := by
  intro z0 v0 ρ0 sz p e s m args below meth c' C ρ H locs ls g hP hD hS hl
  have C0 := C
  obtain ⟨hx, hb, hr, hml, hown, hts, hlk2, hnm, hsz, hK, hSt⟩ := C
  have ht : ∀ {w : Cond}, w ∈ xgt → w.before args s = true := fun h => hts _ (List.mem_cons_of_mem _ h)
  have hrun := va_runS (l := G.1) (e := e) (R := xrm d mc ms) (below := below) (meth := meth) (locs := locs) (cells := kc) (slots := kn) (g := F0 m pc ls ((as.reverse ++ st).map (xtr ρ))) (As := as.map (xtr ρ)) (rest := st.map (xtr ρ)) ⟨hx, hb, hml, hown, hts⟩ (hok ρ H.size)
    ⟨callB_of (R := xrm d mc ms) as.length hts (xw_good _ _ _ _ _ _ _ _ hm.1.1) rfl rfl rfl (ht hm.1.2) (ht hlk) hm.2.2 (xroom hdd hm.2.1), ht hi⟩
    ⟨xPre.blind, fun U hU hW => ⟨rfl, xPre.at C0 g hP hD hS hU hW⟩⟩ rfl (by simp) hl.1 (by simp [List.map_reverse]) (lv_room (xstk ρ as st hst)) hd ⟨h1, h2⟩
  refine xcont hsz hD hS hrun (fun r z1 v1 ρ1 H1 locs1 hq1 hg1 hP1 hD1 hS1 => ?_)
  obtain ⟨e1, hq2⟩ := hq1
  subst e1
  have e2 := hg1.eq rfl
  subst e2
  have k0 := kk r v1 hq2 z0 v0 ρ0 sz p e s m args below meth c' C0 ρ1 H1 locs1 ls g hP1 hD1 hS1 hl
  have e3 : (r.toList ++ st).map (xtr ρ1) = (r.map (xtr ρ1)).toList ++ st.map (xtr ρ1) := by cases r <;> simp
  rw [e3] at k0
  exact k0
/-- System.arraycopy of ints -/
theorem AW_copy {idx a0 a1 n0 n1 : Nat} {sp dp n : Int32} (hd : decode cc pc = .ok (.invokestatic idx, 3)) (hlk : Cond.methodLink own idx arraycopyName ∈ xgt) (hw : Cond.native arraycopyName ∈ xgt ∧ Cond.static arraycopyName ∈ xgt ∧ Cond.initialized "java/lang/System" ∈ xgt) (ha0 : xin z a0 10 n0) (ha1 : xin z a1 10 n1) (h1 : ¬ sp < 0) (h2 : ¬ dp < 0) (h3 : ¬ n < 0) (h4 : sp.toNatClampNeg + n.toNatClampNeg ≤ n0) (h5 : dp.toNatClampNeg + n.toNatClampNeg ≤ n1) (hdd : 0 < d) (hst : (st.map fun w => w.category).sum ≤ 8)
    (kk : AW G d mc ms y cc nL ret own kc kn (pc + 3) L st z (wA v a1 (va_cpy (v.1 a0) (v.1 a1) sp.toNatClampNeg dp.toNatClampNeg n.toNatClampNeg)) Q) : AW G d mc ms y cc nL ret own kc kn pc L (.int n :: .int dp :: .ref a1 :: .int sp :: .ref a0 :: st) z v Q := by
  intro z0 v0 ρ0 sz p e s m args below meth c' C ρ H locs ls g hP hD hS hl
  obtain ⟨q0, hq0, hqa⟩ := xws_at (G := G) (ρ := ρ) (v := v) ha0.1
  obtain ⟨q1, hq1, hqb⟩ := xws_at (G := G) (ρ := ρ) (v := v) ha1.1
  rw [xE_arr ha0.2 (Or.inl rfl)] at hqa
  rw [xE_arr ha1.2 (Or.inl rfl)] at hqb
  have C0 := C
  obtain ⟨hx, hb, hr, hml, hown, hts, hlk2, hnm, hsz, hK, hSt⟩ := C
  have ht : ∀ {w : Cond}, w ∈ xgt → w.before args s = true := fun h => hts _ (List.mem_cons_of_mem _ h)
  have hloc : ((st.map (xtr ρ)).map fun v => v.category).sum + (nativeFrameWords "java/lang/System" "arraycopy" 5 + 11) ≤ (xrm d mc ms).locals := by
    have h8 := xstk ρ [] st hst
    have h9 : nativeFrameWords "java/lang/System" "arraycopy" 5 ≤ 45 := by decide +kernel
    have h10 : (xrm d mc ms).locals = 64 * d := rfl
    omega
  refine va_copyi (D := G.2.1) (cl := vwCl) (tys := xtys G) hx hb (hml.trans hl.1.symm) hown (ht hlk) (ht hw.1) (ht hw.2.1) (ht hw.2.2) hK hP hD hS q0 q1 0 0 hqa hqb rfl rfl rfl h1 h2 h3 h4 h5 (fun _ _ => rfl) hdd hloc hd (fun H1 locs1 hP1 hD1 hS1 => ?_)
  rw [xws_arr hD hq1 ha1.2 (Or.inl rfl)] at hP1 hD1
  exact kk z0 v0 ρ0 sz p e s m args below meth c' C0 ρ H1 locs1 ls g hP1 hD1 hS1 hl
theorem xmloc (ρ : Nat → Nat) {d mc ms : Nat} (hst : (st.map fun w => w.category).sum ≤ 8) (hdd : 0 < d) (n : Nat) (hn : n ≤ 45) : ((st.map (xtr ρ)).map fun v => v.category).sum + n ≤ (xrm d mc ms).locals := by
  have h8 := xstk ρ [] st hst
  have h10 : (xrm d mc ms).locals = 64 * d := rfl
  omega
theorem AW_min {idx : Nat} {x x' : Int32} (hd : decode cc pc = .ok (.invokestatic idx, 3)) (hlk : Cond.methodLink own idx Lib.Math.min.name ∈ xgt) (hw : Cond.static Lib.Math.min.name ∈ xgt ∧ Cond.initialized "java/lang/Math" ∈ xgt ∧ Cond.code Lib.Math.min.name Lib.Math.min.code 2 (some .int) ∈ xgt) (hdd : 0 < d) (hst : (st.map fun w => w.category).sum ≤ 8) (h1 : kc ≤ mc) (h2 : kn ≤ ms)
    (kk : AW G d mc ms y cc nL ret own kc kn (pc + 3) L (.int (if x' < x then x' else x) :: st) z v Q) : AW G d mc ms y cc nL ret own kc kn pc L (.int x' :: .int x :: st) z v Q := by
  intro z0 v0 ρ0 sz p e s m args below meth c' C ρ H locs ls g hP hD hS hl
  have k0 := kk z0 v0 ρ0 sz p e s m args below meth c' C ρ H locs ls g hP hD hS hl
  obtain ⟨hx, hb, hr, hml, hown, hts, -⟩ := C
  have ht : ∀ {w : Cond}, w ∈ xgt → w.before args s = true := fun h => hts _ (List.mem_cons_of_mem _ h)
  exact va_mmin (R := xrm d mc ms) hx hb (hml.trans hl.1.symm) hown (ht hlk) (ht hw.1) (ht hw.2.1) (ht hw.2.2) hdd (xmloc ρ hst hdd 13 (by decide)) h1 h2 hd k0
theorem AW_max {idx : Nat} {x x' : Int32} (hd : decode cc pc = .ok (.invokestatic idx, 3)) (hlk : Cond.methodLink own idx Lib.Math.max.name ∈ xgt) (hw : Cond.static Lib.Math.max.name ∈ xgt ∧ Cond.initialized "java/lang/Math" ∈ xgt ∧ Cond.code Lib.Math.max.name Lib.Math.max.code 2 (some .int) ∈ xgt) (hdd : 0 < d) (hst : (st.map fun w => w.category).sum ≤ 8) (h1 : kc ≤ mc) (h2 : kn ≤ ms)
    (kk : AW G d mc ms y cc nL ret own kc kn (pc + 3) L (.int (if x < x' then x' else x) :: st) z v Q) : AW G d mc ms y cc nL ret own kc kn pc L (.int x' :: .int x :: st) z v Q := by
  intro z0 v0 ρ0 sz p e s m args below meth c' C ρ H locs ls g hP hD hS hl
  have k0 := kk z0 v0 ρ0 sz p e s m args below meth c' C ρ H locs ls g hP hD hS hl
  obtain ⟨hx, hb, hr, hml, hown, hts, -⟩ := C
  have ht : ∀ {w : Cond}, w ∈ xgt → w.before args s = true := fun h => hts _ (List.mem_cons_of_mem _ h)
  exact va_mmax (R := xrm d mc ms) hx hb (hml.trans hl.1.symm) hown (ht hlk) (ht hw.1) (ht hw.2.1) (ht hw.2.2) hdd (xmloc ρ hst hdd 13 (by decide)) h1 h2 hd k0
theorem AW_abs {idx : Nat} {x : Int32} (hd : decode cc pc = .ok (.invokestatic idx, 3)) (hlk : Cond.methodLink own idx Lib.Math.abs.name ∈ xgt) (hw : Cond.static Lib.Math.abs.name ∈ xgt ∧ Cond.initialized "java/lang/Math" ∈ xgt ∧ Cond.code Lib.Math.abs.name Lib.Math.abs.code 1 (some .int) ∈ xgt) (hdd : 0 < d) (hst : (st.map fun w => w.category).sum ≤ 8) (h1 : kc ≤ mc) (h2 : kn ≤ ms)
    (kk : AW G d mc ms y cc nL ret own kc kn (pc + 3) L (.int (if 0 ≤ x then x else 0 - x) :: st) z v Q) : AW G d mc ms y cc nL ret own kc kn pc L (.int x :: st) z v Q := by
  intro z0 v0 ρ0 sz p e s m args below meth c' C ρ H locs ls g hP hD hS hl
  have k0 := kk z0 v0 ρ0 sz p e s m args below meth c' C ρ H locs ls g hP hD hS hl
  obtain ⟨hx, hb, hr, hml, hown, hts, -⟩ := C
  have ht : ∀ {w : Cond}, w ∈ xgt → w.before args s = true := fun h => hts _ (List.mem_cons_of_mem _ h)
  exact va_mabs (R := xrm d mc ms) hx hb (hml.trans hl.1.symm) hown (ht hlk) (ht hw.1) (ht hw.2.1) (ht hw.2.2) hdd (xmloc ρ hst hdd 13 (by decide)) h1 h2 hd k0
/-- the locals at a method's entry -/
def xent (n : Nat) (as : List Value) : List (Option Value) := (as.flatMap fun w => if w.category = 2 then [some w, none] else [some w]) ++ List.replicate (n - (as.flatMap fun w => if w.category = 2 then [some w, none] else [some w]).length) none
theorem xent_prs (ρ : Nat → Nat) : ∀ (as : List Value) (k n : Nat), xprs ρ k ((as.flatMap fun w => if w.category = 2 then [some w, none] else [some w]) ++ List.replicate n none) = lv_args k (as.map (xtr ρ))
  | [], k, n => by
    simp only [List.flatMap_nil, List.nil_append, List.map_nil, lv_args]
    induction n generalizing k with
    | zero => rfl
    | succ n ih => rw [List.replicate_succ, xprs, ih]
  | w :: as, k, n => by
    have ih := fun k => xent_prs ρ as k n
    by_cases hw : w.category = 2
    · simp only [List.flatMap_cons, hw, if_true, List.map_cons, lv_args, xtr_cat, List.cons_append, List.nil_append, xprs]
      rw [ih]
    · simp only [List.flatMap_cons, hw, if_false, List.map_cons, lv_args, xtr_cat, List.cons_append, List.nil_append, xprs]
      rw [ih]
theorem xent_sl (ρ : Nat → Nat) (as : List Value) : (lg_sl (as.map (xtr ρ))).length = (as.flatMap fun w => if w.category = 2 then [some w, (none : Option Value)] else [some w]).length := by
  induction as with
  | nil => rfl
  | cons w as ih =>
    unfold lg_sl at ih ⊢
    simp only [List.map_cons, List.flatMap_cons, List.length_append, ih, xtr_cat]
    congr 1
    split <;> rfl
theorem Ok_of {as : List Value} (hy : plainName y.cls = true) (ho : own = y.cls) (hl : (as.flatMap fun w => if w.category = 2 then [some w, (none : Option Value)] else [some w]).length ≤ nL) (h : AW G d mc ms y cc nL ret own 0 0 0 (xent nL as) [] z v Q) : Ok G d mc ms y cc nL ret as z v Q := by
  subst ho
  intro ρ sz
  refine Met.ofW (cc := cc) (maxL := nL) (ret := ret) hy rfl ?_
  intro p e s m args below meth c s₁ B hml hv
  obtain ⟨rfl, hsz, hP, hK, hD0, hSt⟩ := hv
  have hD := hD0.self (sz := sz)
  have C : xC G y cc nL ret y.cls z v ρ sz p s m (as.map (xtr ρ)).toArray meth c := ⟨B.exec, B.bytes, B.returns, hml, findClass_of_methodNamed B.named, atoms_spec (ws := xw y cc nL ret) B.pre, B.notSynchronized, (name_of_methodNamed B.named B.method).1, hsz, hK, hSt⟩
  have hS : va_S (va_A (xws G ρ z v) sz) s.heap s.heap [] := va_S.rf
  have hl0 := lv_entry (as.map (xtr ρ)) (n := nL) (by rw [xent_sl]; exact hl)
  rw [lg_entry_eq]
  refine h z v ρ sz p e s m _ below meth c C ρ s.heap [] _ (xGr.rf z ρ) hP hD hS ?_
  unfold xLH xent
  rw [xent_prs]
  exact hl0
theorem Ok.mono {as : List Value} {Q' : Option Value → xZ → xS → Prop} (h : Ok G d mc ms y cc nL ret as z v Q') (hQ : ∀ r z1 v1, Q' r z1 v1 → Q r z1 v1) : Ok G d mc ms y cc nL ret as z v Q := by
  intro ρ sz
  refine MetFree.mono (h ρ sz) (fun _ _ q => q) (fun _ _ _ _ _ q => q) (fun a st o t _ q => ⟨?_, q.2⟩)
  obtain ⟨⟨⟨r, z1, v1, ρ1, e1, hq, e3⟩, hF⟩, -⟩ := q
  exact ⟨⟨r, z1, v1, ρ1, e1, hQ _ _ _ hq, e3⟩, hF⟩
end AWC
