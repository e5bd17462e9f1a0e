/-! the abstract machine: new int[n][k], constructors called, a land put into the row of kept ones -/
def mz (z : xZ) (a b n : Nat) : xZ := (z.1 ++ (a :: (List.range n).map (fun i => b + i)), fun c => if c = a then (fun i => if i < n then some (b + i) else none) else if b ≤ c ∧ c < b + n then (fun _ => none) else z.2 c)
def mv (v : xS) (a b n : Nat) : xS := (fun c => if c = a ∨ (b ≤ c ∧ c < b + n) then (fun _ => 0) else v.1 c, fun c => if c = a ∨ (b ≤ c ∧ c < b + n) then (fun _ => 0) else v.2 c)
def mρ (ρ : Nat → Nat) (a b n q : Nat) (r : Nat → Nat) : Nat → Nat := fun c => if c = a then q else if b ≤ c ∧ c < b + n then r (c - b) else ρ c
theorem mz_Zc {z : xZ} {a b n : Nat} (h : Zc z) : Zc (mz z a b n) := by
  intro c hc k x hx
  unfold mz at hc hx ⊢
  dsimp only at hc hx ⊢
  by_cases e : c = a
  · rw [if_pos e] at hx
    split at hx
    · injection hx with hx
      refine List.mem_append_right _ (List.mem_cons_of_mem _ (List.mem_map.mpr ⟨k, List.mem_range.mpr ?_, hx⟩))
      assumption
    · exact absurd hx (by simp)
  · rw [if_neg e] at hx
    by_cases e2 : b ≤ c ∧ c < b + n
    · rw [if_pos e2] at hx; exact absurd hx (by simp)
    · rw [if_neg e2] at hx
      rcases List.mem_append.mp hc with hc | hc
      · exact List.mem_append_left _ (h c hc k x hx)
      · rcases List.mem_cons.mp hc with hc | hc
        · exact absurd hc e
        · obtain ⟨i, hi, ei⟩ := List.mem_map.mp hc
          have := List.mem_range.mp hi
          exact absurd ⟨by omega, by omega⟩ e2
theorem xws_multi {G : xG} {ρ : Nat → Nat} {z : xZ} {v : xS} {a b n k q : Nat} {r : Nat → Nat} {f : Nat → va_E} (hs : SH a = (12, n)) (hsi : ∀ i, i < n → SH (b + i) = (10, k)) (ha : a ∉ z.1) (hb : ∀ i, i < n → b + i ∉ z.1) (hab : ∀ i, i < n → b + i ≠ a) (hc : Zc z) :
    xws G (mρ ρ a b n q r) (mz z a b n) (mv v a b n) = (xws G ρ z v ++ [(q, .inl (G.2.2 12, n, .inr (.inr (.inr (.inr (fun i => if i < n then some (r i) else none))))))]) ++ va_pl ([] ++ (List.range n).map r) (vr_up f ((List.range n).map r) (.inl (G.2.2 10, k, .inl (fun _ => 0)))) := by
  have hin : ∀ c, c ∈ z.1 → c ≠ a ∧ ¬ (b ≤ c ∧ c < b + n) := fun c hc => ⟨fun e => ha (by rw [← e]; exact hc), fun e => hb (c - b) (by omega) (by rw [show b + (c - b) = c by omega]; exact hc)⟩
  have hold : ∀ c, c ∈ z.1 → mρ ρ a b n q r c = ρ c := fun c hc => by unfold mρ; rw [if_neg (hin c hc).1, if_neg (hin c hc).2]
  unfold xws
  show (z.1 ++ (a :: (List.range n).map (fun i => b + i))).map _ = _
  rw [List.map_append, List.append_assoc]
  congr 1
  · apply List.map_congr_left
    intro c hc'
    rw [hold c hc']
    congr 1
    refine xE_congr (fun j => ?_) ?_ ?_
    · show ((if c = a then _ else if b ≤ c ∧ c < b + n then _ else z.2 c : Nat → Option Nat) j).map _ = _
      rw [if_neg (hin c hc').1, if_neg (hin c hc').2]
      cases hx : z.2 c j with
      | none => rfl
      | some x =>
        show some (mρ ρ a b n q r x) = some (ρ x)
        rw [hold x (hc c hc' j x hx)]
    · show (if c = a ∨ (b ≤ c ∧ c < b + n) then _ else v.1 c) = _
      rw [if_neg (fun w => by rcases w with w | w; exact (hin c hc').1 w; exact (hin c hc').2 w)]
    · show (if c = a ∨ (b ≤ c ∧ c < b + n) then _ else v.2 c) = _
      rw [if_neg (fun w => by rcases w with w | w; exact (hin c hc').1 w; exact (hin c hc').2 w)]
  · rw [List.map_cons, List.singleton_append]
    congr 1
    · have e1 : mρ ρ a b n q r a = q := by unfold mρ; rw [if_pos rfl]
      rw [e1, xE_arr2 hs (Or.inr rfl)]
      congr 7
      refine congrArg Sum.inr (funext fun i => ?_)
      show ((if a = a then (fun i => if i < n then some (b + i) else none) else if b ≤ a ∧ a < b + n then _ else z.2 a : Nat → Option Nat) i).map _ = _
      rw [if_pos rfl]
      by_cases hi : i < n
      · simp only [hi, if_true, Option.map_some]
        unfold mρ
        rw [if_neg (hab i hi), if_pos ⟨by omega, by omega⟩, show b + i - b = i by omega]
      · simp [hi]
    · unfold va_pl
      rw [List.nil_append, List.map_map, List.map_map]
      apply List.map_congr_left
      intro i hi
      have hi' := List.mem_range.mp hi
      show (mρ ρ a b n q r (b + i), xE G (mρ ρ a b n q r) (mz z a b n) (mv v a b n) (b + i)) = (r i, vr_up f ((List.range n).map r) (.inl (G.2.2 10, k, .inl (fun _ => 0))) (r i))
      rw [vr_up_in (List.mem_map.mpr ⟨i, hi, rfl⟩), xE_arr (hsi i hi') (Or.inl rfl)]
      have e1 : mρ ρ a b n q r (b + i) = r i := by
        unfold mρ
        rw [if_neg (hab i hi'), if_pos ⟨by omega, by omega⟩, show b + i - b = i by omega]
      rw [e1]
      congr 5
      show (if b + i = a ∨ (b ≤ b + i ∧ b + i < b + n) then _ else _) = _
      rw [if_pos (Or.inr ⟨by omega, by omega⟩)]
theorem xGr.multi {z0 z : xZ} {ρ0 ρ : Nat → Nat} {a b n q : Nat} {r : Nat → Nat} (h : xGr z0 ρ0 z ρ) (ha : a ∉ z.1) (hb : ∀ i, i < n → b + i ∉ z.1) (hs : nst a) (hs2 : ∀ i, i < n → nst (b + i)) : xGr z0 ρ0 (mz z a b n) (mρ ρ a b n q r) := by
  refine ⟨fun c hc => List.mem_append_left _ (h.1 c hc), fun c hc => ?_, fun i hi => ?_⟩
  · have hne : c ≠ a ∧ ¬ (b ≤ c ∧ c < b + n) := by
      rcases hc with hc | hc
      · have := h.1 c hc
        exact ⟨fun e => ha (by rw [← e]; exact this), fun e => hb (c - b) (by omega) (by rw [show b + (c - b) = c by omega]; exact this)⟩
      · exact ⟨fun e => hc (by rw [e]; exact List.mem_append_right _ List.mem_cons_self), fun e => hc (List.mem_append_right _ (List.mem_cons_of_mem _ (List.mem_map.mpr ⟨c - b, List.mem_range.mpr (by omega), by omega⟩)))⟩
    unfold mρ
    rw [if_neg hne.1, if_neg hne.2]
    refine h.2.1 c ?_
    rcases hc with hc | hc
    · exact Or.inl hc
    · exact Or.inr (fun q => hc (List.mem_append_left _ q))
  · unfold mρ
    rw [if_neg (hs i hi), if_neg (fun w => hs2 (110 + i - b) (by omega) i hi (by omega))]
    exact h.2.2 i hi
section ALLOC2
variable {G : xG} {d mc ms : Nat} {y : MethodName} {cc : ByteArray} {nL : Nat} {ret : Option FieldType} {own : String} {kc kn pc : Nat} {L : List (Option Value)} {st : List Value} {z : xZ} {v : xS} {Q : Option Value → xZ → xS → Prop}
theorem AW_mna {idx a b n k : Nat} {x x' : Int32} (hd : decode cc pc = .ok (.multianewarray idx 2, 4)) (hcl : Cond.classLink own idx ("[" ++ (FieldType.array .int).toString) ∈ xgt) (hs : SH a = (12, n)) (hsi : ∀ i, i < n → SH (b + i) = (10, k)) (hn : x = nI n) (hk : x' = nI k) (hn2 : n < 1000) (hk2 : k < 1000) (hw : Cond.arrayClass .int ∈ xgt) (ha : a ∉ z.1) (hb : ∀ i, i < n → b + i ∉ z.1) (hab : ∀ i, i < n → b + i ≠ a) (hz : Zc z) (hst : nst a) (hst2 : ∀ i, i < n → nst (b + i)) (hlv : live z L st) (h1 : kc + 1 + n ≤ mc) (h2 : kn + n + n * k ≤ ms)
    (kk : AW G d mc ms y cc nL ret own (kc + 1 + n) (kn + n + n * k) (pc + 4) L (.ref a :: st) (mz z a b n) (mv v a b n) Q) : AW G d mc ms y cc nL ret own kc kn pc L (.int x' :: .int x :: st) z v Q := by
  intro z0 v0 ρ0 sz p e s m args below meth c' C ρ H locs ls g hP hD hS hl
  have C0 := C
  obtain ⟨hx, hb', hr', hml, hown, hts, hlk2, hnm, hsz, hK, hSt⟩ := C
  have ht : ∀ {w : Cond}, w ∈ xgt → w.before args s = true := fun h => hts _ (List.mem_cons_of_mem _ h)
  have hao : va_AOA .int s := hSt.2 (.arrayOver (.array .int)) (by simp [xNest])
  subst hn hk
  refine va_mna (D := G.2.1) (cl := vwCl) (tys := xtys G) (X := xws G ρ z v) (L := []) (f := fun _ => .inl (G.2.2 10, 0, .inl (fun _ => 0))) (ty := .int) (cy := G.2.2 10) (N' := n) (K' := k) (z := (k, .inl (fun _ => 0))) hx hb' hown (ht hcl) hao (ht hw) (hK.2 0 _ rfl).2 hK (by simpa [va_pl] using hP) (by simpa [va_pl] using hD) hS (fun q hq => Or.inr (by rw [← hsz]; exact hq)) (by rw [i32lt, i32_0, nIi (by omega)]; omega) (by rw [i32lt, i32_0, nIi (by omega)]; omega) (clN (by omega)) (clN (by omega)) (by omega) (by show k * 4 ≤ _; omega) (by omega) rfl rfl (by show kc + (1 + n) ≤ mc; omega) (by show kn + (n + n * k) ≤ ms; omega) (fun c => by show ({ cls := c, slots := Array.replicate k _, vm := .none } : Cell) = _; rw [arrV_new]; rfl) hd (fun q r cA H1 hri hrl hK1 hP1 hD1 hS1 => ?_)
  have ec : cA = G.2.2 12 := Option.some.inj (((hK1.2 4 _ rfl).2 : s.vm.findClass _ = some cA).symm.trans (hK.2 3 _ rfl).2)
  subst ec
  rw [← xws_multi (v := v) hs hsi ha hb hab hz] at hP1 hD1
  have hin : ∀ c, c ∈ z.1 → mρ ρ a b n q r c = ρ c := fun c hc => by
    unfold mρ
    rw [if_neg (fun e => ha (by rw [← e]; exact hc)), if_neg (fun e => hb (c - b) (by omega) (by rw [show b + (c - b) = c by omega]; exact hc))]
  have hx1 : ∀ w : Value, (∀ x, w = .ref x → x ∈ z.1) → xtr (mρ ρ a b n q r) w = xtr ρ w := fun w hw => by
    cases w with
    | ref x => show Value.ref _ = _; rw [hin x (hw x rfl)]; rfl
    | _ => rfl
  have k0 := kk z0 v0 ρ0 sz p e s m args below meth c' C0 (mρ ρ a b n q r) H1 locs ls (g.multi ha hb hst hst2) hP1 hD1 hS1 (by unfold xLH; rw [xprs_congr L 0 (fun w hw => hx1 w (fun x e => hlv.2 x (by rw [← e]; exact hw)))]; exact hl)
  rw [List.map_cons, map_congr_ref (fun w hw => hx1 w (fun x e => hlv.1 x (by rw [← e]; exact hw))), xtr_ref] at k0
  have e2 : mρ ρ a b n q r a = q := by unfold mρ; rw [if_pos rfl]
  rw [e2] at k0
  exact k0
theorem live_tr {ρ ρ1 : Nat → Nat} {z1 : xZ} (hg : xGr z ρ z1 ρ1) {w : Value} (hw : ∀ x, w = .ref x → x ∈ z.1) : xtr ρ1 w = xtr ρ w := by
  cases w with
  | ref x => show Value.ref _ = _; rw [hg.2.1 x (Or.inl (hw x rfl))]; rfl
  | _ => rfl
/-- a constructor, which may make cells -/
theorem AW_callI {d' mc' ms' idx a : Nat} {y' : MethodName} {cc' : ByteArray} {nL' : Nat} {as : List Value} {Q' : xZ → xS → Prop} (hd : decode cc pc = .ok (.invokespecial idx, 3)) (hm : xmv y' cc' nL' none as.length) (hi : y'.name = "<init>" ∧ Cond.instanceMethod y' ∈ xgt) (hlk : Cond.methodLink own idx y' ∈ xgt) (hdd : d' < d) (hst : (st.map fun w => w.category).sum ≤ 8) (h1 : kc + mc' ≤ mc) (h2 : kn + ms' ≤ ms) (hlv : live z L st)
    (hok : Ok G d' mc' ms' y' cc' nL' none (.ref a :: as) z v (fun r z1 v1 => r = none ∧ Q' z1 v1))
    (kk : ∀ (z1 : xZ) (v1 : xS), Q' z1 v1 → AW G d mc ms y cc nL ret own (kc + mc') (kn + ms') (pc + 3) L st z1 v1 Q) : AW G d mc ms y cc nL ret own kc kn pc L (as.reverse ++ .ref a :: st) z v Q := by
  intro z0 v0 ρ0 sz p e s m args below meth c' C ρ H locs ls g hP hD hS hl
  have C0 := C
  obtain ⟨hx, hb, hr, hml, hown, hts, hlk2, hnm, hsz, hK, hSt⟩ := C
  have ht : ∀ {w : Cond}, w ∈ xgt → w.before args s = true := fun h => hts _ (List.mem_cons_of_mem _ h)
  have hrun := va_runI (l := G.1) (e := e) (R := xrm d mc ms) (below := below) (meth := meth) (locs := locs) (cells := kc) (slots := kn) (g := F0 m pc ls ((as.reverse ++ .ref a :: st).map (xtr ρ))) (As := as.map (xtr ρ)) (rest := st.map (xtr ρ)) (b := ρ a) ⟨hx, hb, hml, hown, hts⟩ (hok ρ H.size)
    ⟨callB_of (R := xrm d mc ms) as.length hts (xw_good _ _ _ _ _ _ _ _ hm.1.1) rfl rfl rfl (ht hm.1.2) (ht hlk) hm.2.2 (xroom hdd hm.2.1), hi.1, ht hi.2⟩
    ⟨xPre.blind, fun U hU hW => ⟨rfl, xPre.at C0 g hP hD hS hU hW⟩⟩ rfl (by simp) hl.1 (by simp [xtr_ref, List.map_reverse]) (lv_room (xstk ρ as st hst)) hd ⟨h1, h2⟩
  refine xcont hsz hD hS hrun (fun r z1 v1 ρ1 H1 locs1 hq1 hg1 hP1 hD1 hS1 => ?_)
  obtain ⟨e1, hq2⟩ := hq1
  subst e1
  have k0 := kk z1 v1 hq2 z0 v0 ρ0 sz p e s m args below meth c' C0 ρ1 H1 locs1 ls (g.trans hg1) hP1 hD1 hS1 (by unfold xLH; rw [xprs_congr L 0 (fun w hw => live_tr hg1 (fun x e => hlv.2 x (by rw [← e]; exact hw)))]; exact hl)
  rw [map_congr_ref (fun w hw => live_tr hg1 (fun x e => hlv.1 x (by rw [← e]; exact hw)))] at k0
  exact k0
theorem AW_callIN {d' mc' ms' idx a : Nat} {host : String} {y' : MethodName} {cc' : ByteArray} {nL' : Nat} {as : List Value} {Q' : xZ → xS → Prop} (hd : decode cc pc = .ok (.invokespecial idx, 3)) (hm : xmv y' cc' nL' none as.length) (hi : y'.name = "<init>" ∧ Cond.instanceMethod y' ∈ xgt) (hlk : Cond.methodLinkNest own idx y' host ∈ xNest) (hdd : d' < d) (hst : (st.map fun w => w.category).sum ≤ 8) (h1 : kc + mc' ≤ mc) (h2 : kn + ms' ≤ ms) (hlv : live z L st)
    (hok : Ok G d' mc' ms' y' cc' nL' none (.ref a :: as) z v (fun r z1 v1 => r = none ∧ Q' z1 v1))
    (kk : ∀ (z1 : xZ) (v1 : xS), Q' z1 v1 → AW G d mc ms y cc nL ret own (kc + mc') (kn + ms') (pc + 3) L st z1 v1 Q) : AW G d mc ms y cc nL ret own kc kn pc L (as.reverse ++ .ref a :: st) z v Q := by
  intro z0 v0 ρ0 sz p e s m args below meth c' C ρ H locs ls g hP hD hS hl
  have C0 := C
  obtain ⟨hx, hb, hr, hml, hown, hts, hlk2, hnm, hsz, hK, hSt⟩ := C
  have ht : ∀ {w : Cond}, w ∈ xgt → w.before args s = true := fun h => hts _ (List.mem_cons_of_mem _ h)
  have hrun := va_runIN (l := G.1) (e := e) (R := xrm d mc ms) (below := below) (meth := meth) (locs := locs) (cells := kc) (slots := kn) (g := F0 m pc ls ((as.reverse ++ .ref a :: st).map (xtr ρ))) (As := as.map (xtr ρ)) (rest := st.map (xtr ρ)) (b := ρ a) ⟨hx, hb, hml, hown, hts⟩ (hok ρ H.size)
    ⟨va_cnB (R := xrm d mc ms) as.length hts (xw_good _ _ _ _ _ _ _ _ hm.1.1) rfl rfl rfl (hSt.2 _ hlk) (ht hm.1.2) hm.2.2 (xroom hdd hm.2.1), hi.1, ht hi.2⟩
    ⟨xPre.blind, fun U hU hW => ⟨rfl, xPre.at C0 g hP hD hS hU hW⟩⟩ rfl (by simp) hl.1 (by simp [xtr_ref, List.map_reverse]) (lv_room (xstk ρ as st hst)) hd ⟨h1, h2⟩
  refine xcont hsz hD hS hrun (fun r z1 v1 ρ1 H1 locs1 hq1 hg1 hP1 hD1 hS1 => ?_)
  obtain ⟨e1, hq2⟩ := hq1
  subst e1
  have k0 := kk z1 v1 hq2 z0 v0 ρ0 sz p e s m args below meth c' C0 ρ1 H1 locs1 ls (g.trans hg1) hP1 hD1 hS1 (by unfold xLH; rw [xprs_congr L 0 (fun w hw => live_tr hg1 (fun x e => hlv.2 x (by rw [← e]; exact hw)))]; exact hl)
  rw [map_congr_ref (fun w hw => live_tr hg1 (fun x e => hlv.1 x (by rw [← e]; exact hw)))] at k0
  exact k0
/-- a land into the row of kept ones -/
theorem AW_aast {a n x : Nat} {i : Int32} (hd : decode cc pc = .ok (.aastore, 1)) (ha : xin z a 11 n) (hx : xin z x 1 12) (hi : vp_in i n) (kk : AW G d mc ms y cc nL ret own kc kn (pc + 1) L st (wR z a i.toNatClampNeg (some x)) v Q) : AW G d mc ms y cc nL ret own kc kn pc L (.ref x :: .int i :: .ref a :: st) z v Q := by
  intro z0 v0 ρ0 sz p e s m args below meth c' C ρ H locs ls g hP hD hS hl
  obtain ⟨q, hq0, hq⟩ := xws_at (G := G) (ρ := ρ) (v := v) ha.1
  obtain ⟨q1, hq1, hqx⟩ := xws_at (G := G) (ρ := ρ) (v := v) hx.1
  rw [xE_arr2 ha.2 (Or.inl rfl)] at hq
  rw [xE_obj hx.2 (by decide)] at hqx
  refine va_astq (D := G.2.1) (cl := vwCl) (tys := xtys G) C.1 C.2.1 C.2.2.2.2.2.2.2.2.2.1 hP hD hS q 2 q1 1 hq rfl hqx (xcl_at (c := 1) (by decide)) hi hd (fun H1 locs1 hP1 hD1 hS1 => ?_)
  have e1 : (xws G ρ z v).set q (ρ a, .inl (G.2.2 11, n, .inr (.inr (.inr (.inr (va_up (fun j => (z.2 a j).map ρ) i.toNatClampNeg (some (ρ x)))))))) = xws G ρ (wR z a i.toNatClampNeg (some x)) v := by
    refine xws_set hD rfl hq0 ?_ (fun b hb => xE_ne (by unfold wR va_up; simp [hb]) rfl rfl)
    rw [xE_arr2 ha.2 (Or.inl rfl)]
    congr 6
    refine congrArg Sum.inr (funext fun j => ?_)
    unfold wR va_up
    simp only [if_true]
    by_cases hj : j = i.toNatClampNeg
    · simp [hj]
    · simp [hj]
  rw [e1] at hP1 hD1
  exact kk z0 v0 ρ0 sz p e s m args below meth c' C ρ H1 locs1 ls (g.same rfl) hP1 hD1 hS1 hl
end ALLOC2
