/-! the abstract machine: fields, arrays, statics, arraycopy, Math, returns -/
def xct (c : Nat) : u_T := match c with
  | 0 => TX0
  | 1 => TX1
  | 2 => TX2
  | 3 => TX3
  | 4 => TX4
  | 5 => TX5
  | _ => TX6
def xcn (c : Nat) : String := match c with
  | 0 => RX0
  | 1 => RX1
  | 2 => RX2
  | 3 => RX3
  | 4 => RX4
  | 5 => RX5
  | _ => RX6
def xcN (c : Nat) : Nat := match c with
  | 0 => 8
  | 1 => 12
  | 2 => 12
  | 3 => 6
  | 4 => 3
  | 5 => 11
  | _ => 42
def xcy (c : Nat) : Nat → FieldType := match c with
  | 0 => tyX0
  | 1 => tyX1
  | 2 => tyX2
  | 3 => tyX3
  | 4 => tyX4
  | 5 => tyX5
  | _ => tyX6
theorem xcl_at {c : Nat} (h : c < 7) : vwCl[c]? = some (xcn c, xct c, xcN c) := by
  match c, h with
  | 0, _ => rfl
  | 1, _ => rfl
  | 2, _ => rfl
  | 3, _ => rfl
  | 4, _ => rfl
  | 5, _ => rfl
  | 6, _ => rfl
theorem xct_ty {c : Nat} (h : c < 7) : ∀ k, k < xcN c → parseFieldDescriptor (xct c k).2.2.1 = some (xcy c k) := by
  match c, h with
  | 0, _ => exact tyX0_ok
  | 1, _ => exact tyX1_ok
  | 2, _ => exact tyX2_ok
  | 3, _ => exact tyX3_ok
  | 4, _ => exact tyX4_ok
  | 5, _ => exact tyX5_ok
  | 6, _ => exact tyX6_ok
theorem xct_nm {c : Nat} (h : c < 7) : ∀ a, a < xcN c → ∀ b, b < xcN c → a ≠ b → (xct c a).2.1 ≠ (xct c b).2.1 := by
  match c, h with
  | 0, _ => exact nmX0
  | 1, _ => exact nmX1
  | 2, _ => exact nmX2
  | 3, _ => exact nmX3
  | 4, _ => exact nmX4
  | 5, _ => exact nmX5
  | 6, _ => exact nmX6
theorem xu_of {C : String} {T : u_T} {N : Nat} (ps : List Nat) (h : u_ws C T N = ps.filterMap (fun i => lw_tbl[i]?)) (hg : (u_ws C T N).all goodWord = true) : ∀ w ∈ u_ws C T N, w ∈ xgt := by
  intro w hw
  have h1 := List.all_eq_true.mp hg w hw
  rw [h] at hw
  obtain ⟨i, -, hi⟩ := List.mem_filterMap.mp hw
  exact xgt_at i hi h1
set_option maxRecDepth 20000 in
theorem xu_0 : ∀ w ∈ u_ws RX0 TX0 8, w ∈ xgt := xu_of [219, 221, 223, 225, 227, 229, 231, 233] (by decide +kernel) (by decide +kernel)
set_option maxRecDepth 20000 in
theorem xu_1 : ∀ w ∈ u_ws RX1 TX1 12, w ∈ xgt := xu_of [176, 178, 180, 182, 184, 186, 188, 190, 192, 194, 196, 198] (by decide +kernel) (by decide +kernel)
set_option maxRecDepth 20000 in
theorem xu_2 : ∀ w ∈ u_ws RX2 TX2 12, w ∈ xgt := xu_of [257, 259, 261, 263, 265, 267, 269, 271, 273, 275, 277, 279] (by decide +kernel) (by decide +kernel)
set_option maxRecDepth 20000 in
theorem xu_3 : ∀ w ∈ u_ws RX3 TX3 6, w ∈ xgt := xu_of [132, 134, 136, 138, 140, 142] (by decide +kernel) (by decide +kernel)
set_option maxRecDepth 20000 in
theorem xu_4 : ∀ w ∈ u_ws RX4 TX4 3, w ∈ xgt := xu_of [106, 108, 110] (by decide +kernel) (by decide +kernel)
set_option maxRecDepth 20000 in
theorem xu_5 : ∀ w ∈ u_ws RX5 TX5 11, w ∈ xgt := xu_of [294, 296, 298, 300, 302, 304, 306, 308, 310, 312, 314] (by decide +kernel) (by decide +kernel)
set_option maxRecDepth 20000 in
theorem xu_6 : ∀ w ∈ u_ws RX6 TX6 42, w ∈ xgt := xu_of [928, 930, 932, 934, 936, 938, 940, 942, 944, 946, 948, 950, 952, 954, 956, 958, 960, 962, 964, 966, 968, 970, 972, 974, 976, 978, 980, 982, 984, 986, 988, 990, 992, 994, 996, 998, 1000, 1002, 1004, 1006, 1008, 1010] (by decide +kernel) (by decide +kernel)
theorem xct_in {c : Nat} (h : c < 7) : ∀ w ∈ u_ws (xcn c) (xct c) (xcN c), w ∈ xgt := by
  match c, h with
  | 0, _ => exact xu_0
  | 1, _ => exact xu_1
  | 2, _ => exact xu_2
  | 3, _ => exact xu_3
  | 4, _ => exact xu_4
  | 5, _ => exact xu_5
  | 6, _ => exact xu_6
/-- a cell is there and of a kind and size; a field's link: class, place, kind -/
def xin (z : xZ) (a t n : Nat) : Prop := a ∈ z.1 ∧ SH a = (t, n)
def xfl (own : String) (idx c k t : Nat) : Prop := c < 7 ∧ k < xcN c ∧ xFK c k = t ∧ Cond.fieldLink own idx (xct c k).1 (xct c k).2.1 (xct c k).2.2.1 ∈ xgt
section AWH
variable {G : xG} {d mc ms : Nat} {y : MethodName} {cc : ByteArray} {nL : Nat} {ret : Option FieldType} {own : String} {kc kn pc : Nat} {L : List (Option Value)} {st : List Value} {z : xZ} {v : xS} {Q : Option Value → xZ → xS → Prop}
theorem AW_getV {idx a c k t : Nat} {w : Value} (hd : decode cc pc = .ok (.getfield idx, 3)) (ha : xin z a c (xcN c)) (hf : xfl own idx c k t) (hw : ∀ ρ : Nat → Nat, xfv ρ c (z.2 a) (v.1 a) (v.2 a) k = xtr ρ w) (kk : AW G d mc ms y cc nL ret own kc kn (pc + 3) L (w :: st) z v Q) : AW G d mc ms y cc nL ret own kc kn pc L (.ref a :: st) z v Q := by
  intro z0 v0 ρ0 sz p e s m args below meth c' C ρ H locs ls g hP hD hS hl
  obtain ⟨q, -, hq⟩ := xws_at (G := G) (ρ := ρ) (v := v) ha.1
  rw [xE_obj ha.2 hf.1] at hq
  exact va_get (D := G.2.1) (cl := vwCl) (ci := c) (C := xcn c) (T := xct c) (N := xcN c) C.1 C.2.1 C.2.2.2.2.2.1 (fun w hw => List.mem_cons_of_mem _ (xct_in hf.1 w hw)) C.2.2.2.2.1 C.2.2.2.2.2.2.2.2.2.1 hP q hq (xcl_at hf.1) k hf.2.1 (C.2.2.2.2.2.1 _ (List.mem_cons_of_mem _ hf.2.2.2)) (fun _ h => h) (by rw [xfv_at hf.2.1, hw ρ]) hd (kk z0 v0 ρ0 sz p e s m args below meth c' C ρ H locs ls g hP hD hS hl)
theorem AW_getI {idx a c k : Nat} (hd : decode cc pc = .ok (.getfield idx, 3)) (ha : xin z a c (xcN c)) (hf : xfl own idx c k 0) (kk : AW G d mc ms y cc nL ret own kc kn (pc + 3) L (.int (v.1 a k) :: st) z v Q) : AW G d mc ms y cc nL ret own kc kn pc L (.ref a :: st) z v Q :=
  AW_getV hd ha hf (fun ρ => xfv_i hf.2.2.1) kk
theorem AW_getL {idx a c k : Nat} (hd : decode cc pc = .ok (.getfield idx, 3)) (ha : xin z a c (xcN c)) (hf : xfl own idx c k 2) (kk : AW G d mc ms y cc nL ret own kc kn (pc + 3) L (.long (v.2 a k) :: st) z v Q) : AW G d mc ms y cc nL ret own kc kn pc L (.ref a :: st) z v Q :=
  AW_getV hd ha hf (fun ρ => xfv_l hf.2.2.1) kk
theorem AW_getR {idx a c k b : Nat} (hd : decode cc pc = .ok (.getfield idx, 3)) (ha : xin z a c (xcN c)) (hf : xfl own idx c k 1) (hr : z.2 a k = some b) (kk : AW G d mc ms y cc nL ret own kc kn (pc + 3) L (.ref b :: st) z v Q) : AW G d mc ms y cc nL ret own kc kn pc L (.ref a :: st) z v Q :=
  AW_getV hd ha hf (fun ρ => by rw [xfv_r hf.2.2.1, hr]; rfl) kk
theorem AW_put {idx a c k t : Nat} {w : Value} {z' : xZ} {v' : xS} (hd : decode cc pc = .ok (.putfield idx, 3)) (ha : xin z a c (xcN c)) (hf : xfl own idx c k t) (hfin : (xct c k).2.2.2 = false) (hn : ∀ ρ : Nat → Nat, narrow (xcy c k) (xtr ρ w) = xtr ρ w) (hfit : ∀ ρ : Nat → Nat, fits (xcy c k) (xtr ρ w) = true)
    (hz : z'.1 = z.1) (hw : ∀ ρ : Nat → Nat, xfv ρ c (z'.2 a) (v'.1 a) (v'.2 a) k = xtr ρ w) (ho : ∀ (ρ : Nat → Nat) (j : Nat), j ≠ k → xfv ρ c (z'.2 a) (v'.1 a) (v'.2 a) j = xfv ρ c (z.2 a) (v.1 a) (v.2 a) j) (hb : ∀ b, b ≠ a → z'.2 b = z.2 b ∧ v'.1 b = v.1 b ∧ v'.2 b = v.2 b)
    (kk : AW G d mc ms y cc nL ret own kc kn (pc + 3) L st z' v' Q) : AW G d mc ms y cc nL ret own kc kn pc L (w :: .ref a :: st) z v Q := by
  intro z0 v0 ρ0 sz p e s m args below meth c' C ρ H locs ls g hP hD hS hl
  obtain ⟨q, hq0, hq⟩ := xws_at (G := G) (ρ := ρ) (v := v) ha.1
  rw [xE_obj ha.2 hf.1] at hq
  refine va_put (D := G.2.1) (cl := vwCl) (ci := c) (C := xcn c) (T := xct c) (N := xcN c) (ty := xcy c k) C.1 C.2.1 C.2.2.2.2.2.1 (fun w hw => List.mem_cons_of_mem _ (xct_in hf.1 w hw)) (xcy c) (xct_ty hf.1) (xct_nm hf.1) C.2.2.2.2.1 C.2.2.2.2.2.2.2.2.2.1 hP hD hS q hq (xcl_at hf.1) k hf.2.1 (C.2.2.2.2.2.1 _ (List.mem_cons_of_mem _ hf.2.2.2)) (fun _ h => h) hfin (xct_ty hf.1 k hf.2.1) (hn ρ) (hfit ρ) (by simpa using hf.2.1) hd (fun H1 locs1 hP1 hD1 hS1 => ?_)
  have e1 : (xws G ρ z v).set q (ρ a, .inr (c, ((List.range (xcN c)).map (xfv ρ c (z.2 a) (v.1 a) (v.2 a))).set k (xtr ρ w))) = xws G ρ z' v' := by
    refine xws_set hD hz hq0 ?_ (fun b hne => xE_ne (hb b hne).1 (hb b hne).2.1 (hb b hne).2.2)
    rw [xE_obj ha.2 hf.1, xfv_set hf.2.1 (hw ρ) (ho ρ)]
  rw [e1] at hP1 hD1
  exact kk z0 v0 ρ0 sz p e s m args below meth c' C ρ H1 locs1 ls (g.same hz) hP1 hD1 hS1 hl
theorem AW_putI {idx a c k : Nat} {x : Int32} (hd : decode cc pc = .ok (.putfield idx, 3)) (ha : xin z a c (xcN c)) (hf : xfl own idx c k 0) (hfin : (xct c k).2.2.2 = false) (hn : narrow (xcy c k) (.int x) = .int x) (hfit : fits (xcy c k) (.int x) = true)
    (kk : AW G d mc ms y cc nL ret own kc kn (pc + 3) L st z (wV v a k x) Q) : AW G d mc ms y cc nL ret own kc kn pc L (.int x :: .ref a :: st) z v Q := by
  refine AW_put hd ha hf hfin (fun _ => hn) (fun _ => hfit) rfl (fun ρ => ?_) (fun ρ j hj => ?_) (fun b hb => ⟨rfl, wV_ne hb, rfl⟩) kk
  · rw [xfv_i hf.2.2.1, wV_self]
    simp [upd, xtr]
  · rw [wV_self]
    unfold xfv
    simp [upd, hj]
    rfl
theorem AW_putL {idx a c k : Nat} {x : Int64} (hd : decode cc pc = .ok (.putfield idx, 3)) (ha : xin z a c (xcN c)) (hf : xfl own idx c k 2) (hfin : (xct c k).2.2.2 = false) (hn : narrow (xcy c k) (.long x) = .long x) (hfit : fits (xcy c k) (.long x) = true)
    (kk : AW G d mc ms y cc nL ret own kc kn (pc + 3) L st z (wL v a k x) Q) : AW G d mc ms y cc nL ret own kc kn pc L (.long x :: .ref a :: st) z v Q := by
  refine AW_put (z' := z) (v' := wL v a k x) hd ha hf hfin (fun _ => hn) (fun _ => hfit) rfl (fun ρ => ?_) (fun ρ j hj => ?_) (fun b hb => ⟨rfl, rfl, by rw [wL_row, if_neg hb]⟩) kk
  · rw [xfv_l hf.2.2.1, wL_row, if_pos rfl]
    simp [va_up, xtr]
  · rw [wL_row, if_pos rfl]
    unfold xfv
    simp [va_up, hj]
    rfl
theorem AW_iald {a n : Nat} {i : Int32} (hd : decode cc pc = .ok (.iaload, 1)) (ha : xin z a 10 n) (hi : vp_in i n) (kk : AW G d mc ms y cc nL ret own kc kn (pc + 1) L (.int (v.1 a i.toNatClampNeg) :: st) z v Q) : AW G d mc ms y cc nL ret own kc kn pc L (.int i :: .ref a :: st) z v Q := by
  intro z0 v0 ρ0 sz p e s m args below meth c' C ρ H locs ls g hP hD hS hl
  obtain ⟨q, -, hq⟩ := xws_at (G := G) (ρ := ρ) (v := v) ha.1
  rw [xE_arr ha.2 (Or.inl rfl)] at hq
  exact va_iald (D := G.2.1) (cl := vwCl) C.1 C.2.1 C.2.2.2.2.2.2.2.2.2.1 hP q 0 hq rfl hi hd (kk z0 v0 ρ0 sz p e s m args below meth c' C ρ H locs ls g hP hD hS hl)
theorem AW_zald {a n : Nat} {i : Int32} (hd : decode cc pc = .ok (.baload, 1)) (ha : xin z a 13 n) (hi : vp_in i n) (kk : AW G d mc ms y cc nL ret own kc kn (pc + 1) L (.int (v.1 a i.toNatClampNeg) :: st) z v Q) : AW G d mc ms y cc nL ret own kc kn pc L (.int i :: .ref a :: st) z v Q := by
  intro z0 v0 ρ0 sz p e s m args below meth c' C ρ H locs ls g hP hD hS hl
  obtain ⟨q, -, hq⟩ := xws_at (G := G) (ρ := ρ) (v := v) ha.1
  rw [xE_arr ha.2 (Or.inr rfl)] at hq
  exact va_zald (D := G.2.1) (cl := vwCl) C.1 C.2.1 C.2.2.2.2.2.2.2.2.2.1 hP q 1 hq rfl hi hd (kk z0 v0 ρ0 sz p e s m args below meth c' C ρ H locs ls g hP hD hS hl)
theorem xws_arr {ρ : Nat → Nat} {A : Nat → Prop} {a t n q : Nat} {f : Nat → Int32} (hD : va_D A (xws G ρ z v)) (hq : z.1[q]? = some a) (hs : SH a = (t, n)) (ht : t = 10 ∨ t = 13) : (xws G ρ z v).set q (ρ a, .inl (G.2.2 t, n, .inl f)) = xws G ρ z (wA v a f) := by
  refine xws_set hD rfl hq ?_ (fun b hb => xE_ne rfl (by rw [wA_row, if_neg hb]) rfl)
  rw [xE_arr hs ht, wA_row, if_pos rfl]
theorem AW_iast {a n : Nat} {i x : Int32} (hd : decode cc pc = .ok (.iastore, 1)) (ha : xin z a 10 n) (hi : vp_in i n) (kk : AW G d mc ms y cc nL ret own kc kn (pc + 1) L st z (wV v a i.toNatClampNeg x) Q) : AW G d mc ms y cc nL ret own kc kn pc L (.int x :: .int i :: .ref a :: st) z v Q := by
  intro z0 v0 ρ0 sz p e s m args below meth c' C ρ H locs ls g hP hD hS hl
  obtain ⟨q, hq0, hq⟩ := xws_at (G := G) (ρ := ρ) (v := v) ha.1
  rw [xE_arr ha.2 (Or.inl rfl)] at hq
  refine va_iast (D := G.2.1) (cl := vwCl) C.1 C.2.1 C.2.2.2.2.2.2.2.2.2.1 hP hD hS q 0 hq rfl hi hd (fun H1 locs1 hP1 hD1 hS1 => ?_)
  rw [xws_arr hD hq0 ha.2 (Or.inl rfl)] at hP1 hD1
  exact kk z0 v0 ρ0 sz p e s m args below meth c' C ρ H1 locs1 ls g hP1 hD1 hS1 hl
theorem AW_zast {a n : Nat} {i x : Int32} (hd : decode cc pc = .ok (.bastore, 1)) (ha : xin z a 13 n) (hi : vp_in i n) (hx : vp_nar .boolean x = x) (kk : AW G d mc ms y cc nL ret own kc kn (pc + 1) L st z (wV v a i.toNatClampNeg x) Q) : AW G d mc ms y cc nL ret own kc kn pc L (.int x :: .int i :: .ref a :: st) z v Q := by
  intro z0 v0 ρ0 sz p e s m args below meth c' C ρ H locs ls g hP hD hS hl
  obtain ⟨q, hq0, hq⟩ := xws_at (G := G) (ρ := ρ) (v := v) ha.1
  rw [xE_arr ha.2 (Or.inr rfl)] at hq
  refine va_zast (D := G.2.1) (cl := vwCl) C.1 C.2.1 C.2.2.2.2.2.2.2.2.2.1 hP hD hS q 1 hq rfl hi hd (fun H1 locs1 hP1 hD1 hS1 => ?_)
  rw [hx, xws_arr hD hq0 ha.2 (Or.inr rfl)] at hP1 hD1
  exact kk z0 v0 ρ0 sz p e s m args below meth c' C ρ H1 locs1 ls g hP1 hD1 hS1 hl
/-- a row of an array of references: of lands (11), of int arrays (12) -/
theorem AW_aald {a t n : Nat} {i : Int32} {w : Value} (hd : decode cc pc = .ok (.aaload, 1)) (ha : xin z a t n) (ht : t = 11 ∨ t = 12) (hi : vp_in i n) (hw : va_rf (z.2 a i.toNatClampNeg) = w) (kk : AW G d mc ms y cc nL ret own kc kn (pc + 1) L (w :: st) z v Q) : AW G d mc ms y cc nL ret own kc kn pc L (.int i :: .ref a :: st) z v Q := by
  intro z0 v0 ρ0 sz p e s m args below meth c' C ρ H locs ls g hP hD hS hl
  subst hw
  obtain ⟨q, -, hq⟩ := xws_at (G := G) (ρ := ρ) (v := v) ha.1
  rw [xE_arr2 ha.2 ht] at hq
  have k0 := kk z0 v0 ρ0 sz p e s m args below meth c' C ρ H locs ls g hP hD hS hl
  have hlt : i.toNatClampNeg < n := Nat.not_le.mp fun q => hi (Or.inr q)
  have hK := C.2.2.2.2.2.2.2.2.2.1
  rw [List.map_cons, xtr_rf] at k0
  rcases ht with rfl | rfl
  · exact W.aald (v := va_rf ((z.2 a i.toNatClampNeg).map ρ)) (ty := .object "MovingHills$Land") C.1 C.2.1 (hP q _ hq) ((hK.2 2 _ rfl).1 n (fun j => va_rf ((z.2 a j).map ρ))) rfl (fun q => by cases q) (by show ¬ (i < 0 ∨ (arrV _ _ _).slots.size ≤ _); rw [arrV_size]; exact hi) (by show (arrV _ _ _).slots[_]? = _; rw [arrV_read _ _ hlt]) rfl rfl hd k0
  · exact W.aald (v := va_rf ((z.2 a i.toNatClampNeg).map ρ)) (ty := .array .int) C.1 C.2.1 (hP q _ hq) ((hK.2 3 _ rfl).1 n (fun j => va_rf ((z.2 a j).map ρ))) rfl (fun q => by cases q) (by show ¬ (i < 0 ∨ (arrV _ _ _).slots.size ≤ _); rw [arrV_size]; exact hi) (by show (arrV _ _ _).slots[_]? = _; rw [arrV_read _ _ hlt]) rfl rfl hd k0
theorem AW_alen {a n : Nat} {x : Int32} (hd : decode cc pc = .ok (.arraylength, 1)) (ha : xin z a 10 n) (hx : Int32.ofNat n = x) (kk : AW G d mc ms y cc nL ret own kc kn (pc + 1) L (.int x :: st) z v Q) : AW G d mc ms y cc nL ret own kc kn pc L (.ref a :: st) z v Q := by
  intro z0 v0 ρ0 sz p e s m args below meth c' C ρ H locs ls g hP hD hS hl
  obtain ⟨q, -, hq⟩ := xws_at (G := G) (ρ := ρ) (v := v) ha.1
  rw [xE_arr ha.2 (Or.inl rfl)] at hq
  exact va_alen (D := G.2.1) (cl := vwCl) C.1 C.2.1 C.2.2.2.2.2.2.2.2.2.1 hP q 0 hq rfl hx hd (kk z0 v0 ρ0 sz p e s m args below meth c' C ρ H locs ls g hP hD hS hl)
/-- a static array, and its places -/
theorem AW_gets {idx i : Nat} (hd : decode cc pc = .ok (.getstatic idx, 3)) (hi : i < 4) (hlk : Cond.fieldLinkNest own idx "MovingHills" (xSn i) "[I" "MovingHills" ∈ xNest) (kk : AW G d mc ms y cc nL ret own kc kn (pc + 3) L (.ref (110 + i) :: st) z v Q) : AW G d mc ms y cc nL ret own kc kn pc L st z v Q := by
  intro z0 v0 ρ0 sz p e s m args below meth c' C ρ H locs ls g hP hD hS hl
  have k0 := kk z0 v0 ρ0 sz p e s m args below meth c' C ρ H locs ls g hP hD hS hl
  rw [List.map_cons, xtr_ref, g.2.2 i hi] at k0
  have hSt := C.2.2.2.2.2.2.2.2.2.2
  exact va_getsN C.1 C.2.1 (hSt.1 i hi).1 hS C.2.2.2.2.1 (va_Nw.use rfl (hSt.2 _ hlk)) (fun _ h => h) hd k0
theorem AW_tald {i : Nat} {j x : Int32} (hd : decode cc pc = .ok (.iaload, 1)) (hi : i < 4) (hj : vp_in j 6) (hx : (xSv i).getD j.toNatClampNeg 0 = x) (kk : AW G d mc ms y cc nL ret own kc kn (pc + 1) L (.int x :: st) z v Q) : AW G d mc ms y cc nL ret own kc kn pc L (.int j :: .ref (110 + i) :: st) z v Q := by
  intro z0 v0 ρ0 sz p e s m args below meth c' C ρ H locs ls g hP hD hS hl
  have k0 := kk z0 v0 ρ0 sz p e s m args below meth c' C ρ H locs ls g hP hD hS hl
  have hSt := C.2.2.2.2.2.2.2.2.2.2
  subst hx
  show W p G.1 e (xrm d mc ms) s m args below meth c' H locs kc kn _ (F0 m pc ls (.int j :: .ref (ρ (110 + i)) :: st.map (xtr ρ)))
  rw [g.2.2 i hi]
  exact va_ti C.1 C.2.1 (hSt.1 i hi).2 hS hj rfl hd k0
theorem AW_iret {x : Int32} {ty : FieldType} (hd : decode cc pc = .ok (.ireturn, 1)) (hr : ret = some ty) (hn : narrow ty (.int x) = .int x) (h1 : kc ≤ mc) (h2 : kn ≤ ms) (hq : Q (some (.int x)) z v) : AW G d mc ms y cc nL ret own kc kn pc L [.int x] z v Q := by
  intro z0 v0 ρ0 sz p e s m args below meth c' C ρ H locs ls g hP hD hS hl
  refine W.widen h1 h2 ?_
  exact W.zret C.1 C.2.1 (C.2.2.1.trans hr) hn (fun t ht hW => ⟨⟨some (.int x), z, v, ρ, rfl, hq, g, by rw [ht]; exact hP, hD⟩, hS.F ht⟩) hS.2.2 hd C.2.2.2.2.2.2.1
theorem AW_lret {x : Int64} (hd : decode cc pc = .ok (.lreturn, 1)) (hr : ret = some .long) (h1 : kc ≤ mc) (h2 : kn ≤ ms) (hq : Q (some (.long x)) z v) : AW G d mc ms y cc nL ret own kc kn pc L [.long x] z v Q := by
  intro z0 v0 ρ0 sz p e s m args below meth c' C ρ H locs ls g hP hD hS hl
  refine W.widen h1 h2 ?_
  exact W.lret C.1 C.2.1 (C.2.2.1.trans hr) (fun t ht hW => ⟨⟨some (.long x), z, v, ρ, rfl, hq, g, by rw [ht]; exact hP, hD⟩, hS.F ht⟩) hS.2.2 hd C.2.2.2.2.2.2.1
theorem AW_vret (hd : decode cc pc = .ok (.return_, 1)) (hr : ret = none) (h1 : kc ≤ mc) (h2 : kn ≤ ms) (hq : Q none z v) : AW G d mc ms y cc nL ret own kc kn pc L [] z v Q := by
  intro z0 v0 ρ0 sz p e s m args below meth c' C ρ H locs ls g hP hD hS hl
  refine W.widen h1 h2 ?_
  exact W.vret C.1 C.2.1 (C.2.2.1.trans hr) (fun t ht hW => ⟨⟨none, z, v, ρ, rfl, hq, g, by rw [ht]; exact hP, hD⟩, hS.F ht⟩) hS.2.2 hd C.2.2.2.2.2.2.1
end AWH
