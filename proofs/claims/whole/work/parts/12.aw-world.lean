/-! the abstract machine's cells in the kit's worlds -/
theorem xws_at {G : xG} {ρ : Nat → Nat} {z : xZ} {v : xS} {a : Nat} (h : a ∈ z.1) : ∃ q : Nat, z.1[q]? = some a ∧ (xws G ρ z v)[q]? = some (ρ a, xE G ρ z v a) := by
  obtain ⟨q, hq⟩ := List.getElem?_of_mem h
  exact ⟨q, hq, by simp [xws, hq]⟩
theorem xws_set {G : xG} {ρ : Nat → Nat} {z z' : xZ} {v v' : xS} {A : Nat → Prop} {a q : Nat} {e : va_E} (hD : va_D A (xws G ρ z v)) (hz : z'.1 = z.1) (hq : z.1[q]? = some a) (he : xE G ρ z' v' a = e)
    (ho : ∀ b, b ≠ a → xE G ρ z' v' b = xE G ρ z v b) : (xws G ρ z v).set q (ρ a, e) = xws G ρ z' v' := by
  apply List.ext_getElem?
  intro j
  by_cases hj : j = q
  · subst hj
    have hl : j < (xws G ρ z v).length := by
      have := (List.getElem?_eq_some_iff.mp hq).1
      simpa [xws] using this
    rw [List.getElem?_set_self hl]
    simp [xws, hz, hq, he]
  · rw [List.getElem?_set_ne (Ne.symm hj)]
    cases hb : z.1[j]? with
    | none => simp [xws, hz, hb]
    | some b =>
      have hba : b ≠ a := by
        intro hba
        subst hba
        exact hj (hD.1 j q (ρ b, xE G ρ z v b) (ρ b, xE G ρ z v b) (by simp [xws, hb]) (by simp [xws, hq]) rfl)
      simp [xws, hz, hb, ho b hba]
theorem xE_arr {G : xG} {ρ : Nat → Nat} {z : xZ} {v : xS} {a t n : Nat} (hs : SH a = (t, n)) (ht : t = 10 ∨ t = 13) : xE G ρ z v a = .inl (G.2.2 t, n, .inl (v.1 a)) := by
  unfold xE xEc
  rw [hs]
  rcases ht with rfl | rfl <;> simp
theorem xE_arr2 {G : xG} {ρ : Nat → Nat} {z : xZ} {v : xS} {a t n : Nat} (hs : SH a = (t, n)) (ht : t = 11 ∨ t = 12) : xE G ρ z v a = .inl (G.2.2 t, n, .inr (.inr (.inr (.inr (fun i => (z.2 a i).map ρ))))) := by
  unfold xE xEc
  rw [hs]
  rcases ht with rfl | rfl <;> simp
theorem xE_obj {G : xG} {ρ : Nat → Nat} {z : xZ} {v : xS} {a t n : Nat} (hs : SH a = (t, n)) (ht : t < 7) : xE G ρ z v a = .inr (t, (List.range n).map (xfv ρ t (z.2 a) (v.1 a) (v.2 a))) := by
  unfold xE xEc
  rw [hs]
  simp [ht]
theorem xE_ne {G : xG} {ρ : Nat → Nat} {z z' : xZ} {v v' : xS} {b : Nat} (h1 : z'.2 b = z.2 b) (h2 : v'.1 b = v.1 b) (h3 : v'.2 b = v.2 b) : xE G ρ z' v' b = xE G ρ z v b := by
  unfold xE
  rw [h1, h2, h3]
theorem wV_ne {v : xS} {a b k : Nat} {x : Int32} (h : b ≠ a) : (wV v a k x).1 b = v.1 b := by rw [wV_row, if_neg h]
theorem wV_self {v : xS} {a k : Nat} {x : Int32} : (wV v a k x).1 a = upd (v.1 a) k x := by rw [wV_row, if_pos rfl]
theorem xfv_set {ρ : Nat → Nat} {c n k : Nat} {r r' : Nat → Option Nat} {f f' : Nat → Int32} {g g' : Nat → Int64} {w : Value} (hk : k < n) (hw : xfv ρ c r' f' g' k = w) (ho : ∀ j, j ≠ k → xfv ρ c r' f' g' j = xfv ρ c r f g j) :
    ((List.range n).map (xfv ρ c r f g)).set k w = (List.range n).map (xfv ρ c r' f' g') := by
  apply List.ext_getElem?
  intro j
  by_cases hj : j = k
  · subst hj
    rw [List.getElem?_set_self (by simpa using hk)]
    simp [hk, hw]
  · rw [List.getElem?_set_ne (Ne.symm hj)]
    by_cases hn : j < n
    · simp [hn, ho j hj]
    · simp [hn]
theorem xfv_at {ρ : Nat → Nat} {c n k : Nat} {r : Nat → Option Nat} {f : Nat → Int32} {g : Nat → Int64} (hk : k < n) : ((List.range n).map (xfv ρ c r f g))[k]? = some (xfv ρ c r f g k) := by simp [hk]
theorem xfv_i {ρ : Nat → Nat} {c k : Nat} {r : Nat → Option Nat} {f : Nat → Int32} {g : Nat → Int64} (h : xFK c k = 0) : xfv ρ c r f g k = .int (f k) := by simp [xfv, h]
theorem xfv_r {ρ : Nat → Nat} {c k : Nat} {r : Nat → Option Nat} {f : Nat → Int32} {g : Nat → Int64} (h : xFK c k = 1) : xfv ρ c r f g k = va_rf ((r k).map ρ) := by simp [xfv, h]
theorem xfv_l {ρ : Nat → Nat} {c k : Nat} {r : Nat → Option Nat} {f : Nat → Int32} {g : Nat → Int64} (h : xFK c k = 2) : xfv ρ c r f g k = .long (g k) := by simp [xfv, h]
/-- statics and nest words at a callee's start -/
theorem xSt.call {ρ0 ρ : Nat → Nat} {A B : Nat → Prop} {s U : State} {locs : List Loc} {H : Heap} (h : xSt ρ0 A s s.heap) (hρ : ∀ i, i < 4 → ρ (110 + i) = ρ0 (110 + i)) (hS : va_S A s.heap H locs) (hU : U.heap = H) (hW : s.WarmedH U.vm) (hAB : ∀ q, B q → A q) : xSt ρ B U U.heap := by
  refine ⟨fun i hi => ?_, fun w hw => ?_⟩
  · obtain ⟨h1, h2⟩ := h.1 i hi
    rw [hρ i hi, hU]
    exact ⟨((h1.moved hW.alike).kept hS.2.1).narrow hAB, ((h2.moved hW.alike).kept hS.2.1).narrow hAB⟩
  · have h0 := h.2 w hw
    simp only [xNest, List.mem_cons, List.not_mem_nil, or_false] at hw
    rcases hw with rfl | rfl | rfl | rfl | rfl | rfl | rfl | rfl
    · exact h0.warmF hW
    · exact h0.warmF hW
    · exact h0.warmF hW
    · exact h0.warmF hW
    · exact h0.warmM hW
    · exact h0.warmM hW
    · exact over_moved hW.alike h0
    · exact va_AO.moved hW.alike h0
