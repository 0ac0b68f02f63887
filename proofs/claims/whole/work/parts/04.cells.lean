/-! A machine over numbers: cells have numbers 0, 1, 2 .. in the order of their making; ints, longs and references lie in three tables. X says: the machine of the Statement, at a frame of method k, comes to the method's end with Q. -/
abbrev HP : Type := List (Nat × Nat) × (Nat → Nat → Option Nat) × (Nat → Nat → Int32) × (Nat → Nat → Int64)
def kd (h : HP) (a : Nat) : Nat := (h.1.getD a (99, 0)).1
def zl (h : HP) (a : Nat) : Nat := (h.1.getD a (99, 0)).2
def hR (h : HP) (a j : Nat) : Option Nat := h.2.1 a j
def hI (h : HP) (a j : Nat) : Int32 := h.2.2.1 a j
def hJ (h : HP) (a j : Nat) : Int64 := h.2.2.2 a j
def up2 {α : Type} (f : Nat → Nat → α) (a j : Nat) (v : α) : Nat → Nat → α := fun b i => if b = a then (if i = j then v else f b i) else f b i
def up1 {α : Type} (f : Nat → Nat → α) (a : Nat) (g : Nat → α) : Nat → Nat → α := fun b => if b = a then g else f b
def sR (h : HP) (a j : Nat) (v : Option Nat) : HP := (h.1, up2 h.2.1 a j v, h.2.2.1, h.2.2.2)
def sI (h : HP) (a j : Nat) (v : Int32) : HP := (h.1, h.2.1, up2 h.2.2.1 a j v, h.2.2.2)
def sJ (h : HP) (a j : Nat) (v : Int64) : HP := (h.1, h.2.1, h.2.2.1, up2 h.2.2.2 a j v)
def nw (h : HP) (k z : Nat) : HP := (h.1 ++ [(k, z)], up1 h.2.1 h.1.length (fun _ => none), up1 h.2.2.1 h.1.length (fun _ => 0), up1 h.2.2.2 h.1.length (fun _ => 0))
abbrev UU : Value := .retAddr 0
def tr (B : Nat) : Value → Value
  | .ref a => .ref (B + a)
  | v => v
theorem tr_rf (B : Nat) (r : Option Nat) : tr B (va_rf r) = va_rf (r.map (B + ·)) := by cases r <;> rfl
theorem tr_cat (B : Nat) (v : Value) : (tr B v).category = v.category := by cases v <;> rfl
theorem tr_cats (B : Nat) (st : List Value) : ((st.map (tr B)).map fun v => v.category) = st.map fun v => v.category := by
  rw [List.map_map]
  exact List.map_congr_left fun v _ => tr_cat B v
def fvA (t : FieldType) (r : Option Nat) (i : Int32) (j : Int64) : Value := match t with
  | .long => .long j
  | .int => .int i
  | .boolean => .int i
  | _ => va_rf r
noncomputable def nfl (c : Nat) : Nat := (clQ c).2.2
noncomputable def fls (B : Nat) (h : HP) (a k n : Nat) : List Value := (List.range n).map fun j => tr B (fvA (fty k j) (hR h a j) (hI h a j) (hJ h a j))
noncomputable def cE (cA : Nat → ClassId) (B : Nat) (h : HP) (a : Nat) : va_E :=
  if kd h a < 10 then .inr (kd h a, fls B h a (kd h a) (nfl (kd h a)))
  else if kd h a = 11 then .inl (cA 11, zl h a, .inr (.inl (hJ h a)))
  else if kd h a < 13 then .inl (cA (kd h a), zl h a, .inl (hI h a))
  else .inl (cA (kd h a), zl h a, .inr (.inr (.inr (.inr fun i => (hR h a i).map (B + ·)))))
noncomputable def wsH (cA : Nat → ClassId) (B : Nat) (h : HP) : va_W := (List.range h.1.length).map fun a => (B + a, cE cA B h a)
noncomputable def Rep (D : va_G) (cA : Nat → ClassId) (B : Nat) (h : HP) (H : Heap) : Prop := H.size = B + h.1.length ∧ va_P D vwCl (wsH cA B h) H
theorem kd_lt {h : HP} {a c : Nat} (hk : kd h a = c) (hc : c < 99) : a < h.1.length := by
  rcases Nat.lt_or_ge a h.1.length with q | q
  · exact q
  · have e : kd h a = 99 := by simp [kd, List.getD, List.getElem?_eq_none q]
    omega
theorem wsH_get {cA : Nat → ClassId} {B : Nat} {h : HP} {a : Nat} (ha : a < h.1.length) : (wsH cA B h)[a]? = some (B + a, cE cA B h a) := by
  simp [wsH, ha]
theorem wsH_D {cA : Nat → ClassId} {B : Nat} {h : HP} : va_D (fun q => B ≤ q) (wsH cA B h) := by
  have key : ∀ (i : Nat) (p : Nat × va_E), (wsH cA B h)[i]? = some p → p.1 = B + i := by
    intro i p hi
    simp only [wsH, List.getElem?_map, Option.map_eq_some_iff] at hi
    obtain ⟨x, hx, rfl⟩ := hi
    have := (List.getElem?_eq_some_iff.mp hx)
    obtain ⟨h1, h2⟩ := this
    simp at h2
    rw [h2]
  refine ⟨fun i j p q hi hj hpq => ?_, fun i p hi => ?_⟩
  · have h1 := key i p hi
    have h2 := key j q hj
    omega
  · have h1 := key i p hi
    show B ≤ p.1
    omega
theorem wsH_set {cA : Nat → ClassId} {B : Nat} {h h' : HP} {a : Nat} {e : va_E} (h1 : h'.1 = h.1) (h2 : ∀ b, b ≠ a → cE cA B h' b = cE cA B h b) (he : cE cA B h' a = e) : (wsH cA B h).set a (B + a, e) = wsH cA B h' := by
  apply List.ext_getElem?
  intro i
  by_cases hi : i < h.1.length
  · by_cases hia : i = a
    · subst hia
      rw [List.getElem?_set_self (by simpa [wsH] using hi), wsH_get (by rw [h1]; exact hi), he]
    · rw [List.getElem?_set_ne (Ne.symm hia), wsH_get hi, wsH_get (by rw [h1]; exact hi), h2 i hia]
  · rw [List.getElem?_eq_none (by simp [wsH]; omega), List.getElem?_eq_none (by simp [wsH, h1]; omega)]
theorem wsH_push {cA : Nat → ClassId} {B : Nat} {h h' : HP} {x : Nat × Nat} {e : va_E} (h1 : h'.1 = h.1 ++ [x]) (h2 : ∀ b, b < h.1.length → cE cA B h' b = cE cA B h b) (he : cE cA B h' h.1.length = e) : wsH cA B h ++ [(B + h.1.length, e)] = wsH cA B h' := by
  unfold wsH
  rw [h1, List.length_append, List.length_singleton, List.range_succ, List.map_append, List.map_singleton, he]
  congr 1
  apply List.map_congr_left
  intro b hb
  rw [h2 b (List.mem_range.mp hb)]
theorem up2_ne {α : Type} {f : Nat → Nat → α} {a j : Nat} {v : α} {b : Nat} (hb : b ≠ a) : up2 f a j v b = f b := by
  funext i
  simp [up2, hb]
theorem up2_eq {α : Type} {f : Nat → Nat → α} {a j : Nat} {v : α} : up2 f a j v a = fun i => if i = j then v else f a i := by
  funext i
  simp [up2]
theorem up1_ne {α : Type} {f : Nat → Nat → α} {a : Nat} {g : Nat → α} {b : Nat} (hb : b ≠ a) : up1 f a g b = f b := by simp [up1, hb]
theorem up1_eq {α : Type} {f : Nat → Nat → α} {a : Nat} {g : Nat → α} : up1 f a g a = g := by simp [up1]
theorem cE_same {cA : Nat → ClassId} {B : Nat} {h h' : HP} {b : Nat} (h1 : h'.1.getD b (99, 0) = h.1.getD b (99, 0)) (hr : h'.2.1 b = h.2.1 b) (hi : h'.2.2.1 b = h.2.2.1 b) (hj : h'.2.2.2 b = h.2.2.2 b) : cE cA B h' b = cE cA B h b := by
  unfold cE fls kd zl hR hI hJ
  rw [h1, hr, hi, hj]
theorem cE_obj {cA : Nat → ClassId} {B : Nat} {h : HP} {a c : Nat} (hk : kd h a = c) (hc : c < 10) : cE cA B h a = .inr (c, fls B h a c (nfl c)) := by
  unfold cE
  rw [hk, if_pos hc]
theorem cE_I {cA : Nat → ClassId} {B : Nat} {h : HP} {a : Nat} (hk : kd h a = 10) : cE cA B h a = .inl (cA 10, zl h a, .inl (hI h a)) := by
  unfold cE
  rw [hk]
  rfl
theorem cE_Z {cA : Nat → ClassId} {B : Nat} {h : HP} {a : Nat} (hk : kd h a = 12) : cE cA B h a = .inl (cA 12, zl h a, .inl (hI h a)) := by
  unfold cE
  rw [hk]
  rfl
theorem cE_J {cA : Nat → ClassId} {B : Nat} {h : HP} {a : Nat} (hk : kd h a = 11) : cE cA B h a = .inl (cA 11, zl h a, .inr (.inl (hJ h a))) := by
  unfold cE
  rw [hk]
  rfl
theorem cE_R {cA : Nat → ClassId} {B : Nat} {h : HP} {a c : Nat} (hk : kd h a = c) (hc : 13 ≤ c) : cE cA B h a = .inl (cA c, zl h a, .inr (.inr (.inr (.inr fun i => (hR h a i).map (B + ·))))) := by
  unfold cE
  rw [hk, if_neg (by omega), if_neg (by omega), if_neg (by omega)]
/-- the locals: a list, UU where nothing is known (a long's second half) -/
def lvL (B : Nat) (L : List Value) : List (Nat × Value) := (List.range L.length).filterMap fun i => (L[i]?).bind fun v => if v = UU then none else some (i, tr B v)
theorem lvL_mem {B : Nat} {L : List Value} {q : Nat × Value} : q ∈ lvL B L ↔ ∃ v, L[q.1]? = some v ∧ v ≠ UU ∧ q.2 = tr B v := by
  unfold lvL
  rw [List.mem_filterMap]
  constructor
  · rintro ⟨i, hi, h⟩
    rw [Option.bind_eq_some_iff] at h
    obtain ⟨v, hv, h⟩ := h
    by_cases hu : v = UU
    · rw [if_pos hu] at h; cases h
    · rw [if_neg hu] at h
      cases h
      exact ⟨v, hv, hu, rfl⟩
  · rintro ⟨v, hv, hu, hq⟩
    refine ⟨q.1, List.mem_range.mpr (List.getElem?_eq_some_iff.mp hv).1, ?_⟩
    rw [hv, Option.bind_some, if_neg hu, ← hq]
def LH (B : Nat) (ls : Array Slot) (n : Nat) (L : List Value) : Prop := L.length = n ∧ lv_has ls n (lvL B L)
theorem LH.at {B : Nat} {ls : Array Slot} {n : Nat} {L : List Value} (h : LH B ls n L) {i : Nat} {v : Value} (hv : L[i]? = some v) (hu : v ≠ UU) : ls[i]? = some (.val (tr B v)) := h.2.2.2 (i, tr B v) (lvL_mem.mpr ⟨v, hv, hu, rfl⟩)
def unl : Value → Value
  | .long _ => UU
  | .double _ => UU
  | v => v
def st1 : List Value → Nat → Value → List Value
  | [], _, _ => []
  | _ :: t, 0, v => v :: t
  | a :: t, 1, v => unl a :: st1 t 0 v
  | a :: t, i + 2, v => a :: st1 t (i + 1) v
def st2 : List Value → Nat → Value → List Value
  | [], _, _ => []
  | [_], 0, v => [v]
  | _ :: _ :: t, 0, v => v :: UU :: t
  | a :: t, 1, v => unl a :: st2 t 0 v
  | a :: t, i + 2, v => a :: st2 t (i + 1) v
theorem st1_len : ∀ (L : List Value) (i : Nat) (v : Value), (st1 L i v).length = L.length
  | [], _, _ => by simp [st1]
  | _ :: t, 0, v => by simp [st1]
  | a :: t, 1, v => by simp [st1, st1_len t 0 v]
  | a :: t, i + 2, v => by simp [st1, st1_len t (i + 1) v]
theorem st2_len : ∀ (L : List Value) (i : Nat) (v : Value), (st2 L i v).length = L.length
  | [], _, _ => by simp [st2]
  | [_], 0, v => by simp [st2]
  | _ :: _ :: t, 0, v => by simp [st2]
  | a :: t, 1, v => by simp [st2, st2_len t 0 v]
  | a :: t, i + 2, v => by simp [st2, st2_len t (i + 1) v]
theorem unl_cat {v : Value} (h : unl v ≠ UU) : unl v = v ∧ v.category ≠ 2 := by
  cases v <;> simp_all [unl, Value.category]
theorem st1_at : ∀ (L : List Value) (i : Nat) (v : Value) (j : Nat) (w : Value), (st1 L i v)[j]? = some w → w ≠ UU → (j = i ∧ w = v) ∨ (j ≠ i ∧ L[j]? = some w ∧ (j + 1 = i → w.category ≠ 2))
  | [], _, _, j, w, h, _ => by simp [st1] at h
  | b :: t, 0, v, j, w, h, hu => by
    cases j with
    | zero => simp [st1] at h; exact Or.inl ⟨rfl, h.symm⟩
    | succ j => simp [st1] at h; exact Or.inr ⟨by omega, by simpa using h, by omega⟩
  | a :: t, 1, v, j, w, h, hu => by
    cases j with
    | zero =>
      simp [st1] at h
      have := unl_cat (v := a) (by rw [h]; exact hu)
      refine Or.inr ⟨by omega, by simp [← h, this.1], fun _ => ?_⟩
      rw [← h, this.1]; exact this.2
    | succ j =>
      simp [st1] at h
      rcases st1_at t 0 v j w h hu with ⟨h1, h2⟩ | ⟨h1, h2, h3⟩
      · exact Or.inl ⟨by omega, h2⟩
      · exact Or.inr ⟨by omega, by simpa using h2, by omega⟩
  | a :: t, i + 2, v, j, w, h, hu => by
    cases j with
    | zero => simp [st1] at h; exact Or.inr ⟨by omega, by simp [h], by omega⟩
    | succ j =>
      simp [st1] at h
      rcases st1_at t (i + 1) v j w h hu with ⟨h1, h2⟩ | ⟨h1, h2, h3⟩
      · exact Or.inl ⟨by omega, h2⟩
      · exact Or.inr ⟨by omega, by simpa using h2, fun q => h3 (by omega)⟩
theorem st2_at : ∀ (L : List Value) (i : Nat) (v : Value) (j : Nat) (w : Value), i + 1 < L.length → (st2 L i v)[j]? = some w → w ≠ UU → (j = i ∧ w = v) ∨ (j ≠ i ∧ j ≠ i + 1 ∧ L[j]? = some w ∧ (j + 1 = i → w.category ≠ 2))
  | [], _, _, j, w, _, h, _ => by simp [st2] at h
  | [_], 0, v, j, w, hl, h, hu => by simp at hl
  | b :: b2 :: t, 0, v, j, w, hl, h, hu => by
    match j, h with
    | 0, h => simp [st2] at h; exact Or.inl ⟨rfl, h.symm⟩
    | 1, h => simp [st2] at h; exact absurd h.symm hu
    | j + 2, h => simp [st2] at h; exact Or.inr ⟨by omega, by omega, by simpa using h, by omega⟩
  | a :: t, 1, v, j, w, hl, h, hu => by
    cases j with
    | zero =>
      simp [st2] at h
      have := unl_cat (v := a) (by rw [h]; exact hu)
      refine Or.inr ⟨by omega, by omega, by simp [← h, this.1], fun _ => ?_⟩
      rw [← h, this.1]; exact this.2
    | succ j =>
      simp [st2] at h
      rcases st2_at t 0 v j w (by simp at hl; omega) h hu with ⟨h1, h2⟩ | ⟨h1, h2, h3, h4⟩
      · exact Or.inl ⟨by omega, h2⟩
      · exact Or.inr ⟨by omega, by omega, by simpa using h3, by omega⟩
  | a :: t, i + 2, v, j, w, hl, h, hu => by
    cases j with
    | zero => simp [st2] at h; exact Or.inr ⟨by omega, by omega, by simp [h], by omega⟩
    | succ j =>
      simp [st2] at h
      rcases st2_at t (i + 1) v j w (by simp at hl; omega) h hu with ⟨h1, h2⟩ | ⟨h1, h2, h3, h4⟩
      · exact Or.inl ⟨by omega, h2⟩
      · exact Or.inr ⟨by omega, by omega, by simpa using h3, fun q => h4 (by omega)⟩
theorem LH_st1 {B : Nat} {ls ls' : Array Slot} {n : Nat} {L : List Value} {i : Nat} {v : Value} (h : LH B ls n L) (h' : lv_has ls' n ((i, tr B v) :: (lvL B L).filter (fun q => !(q.1 == i) && !(q.1 + 1 == i && q.2.category == 2)))) : LH B ls' n (st1 L i v) := by
  refine ⟨by rw [st1_len]; exact h.1, h'.1, h'.2.1, fun q hq => ?_⟩
  obtain ⟨w, h1, h2, h3⟩ := lvL_mem.mp hq
  apply h'.2.2
  rcases st1_at L i v q.1 w h1 h2 with ⟨e1, e2⟩ | ⟨e1, e2, e3⟩
  · apply List.mem_cons.mpr
    left
    rw [Prod.ext_iff]
    exact ⟨e1, by rw [h3, e2]⟩
  · apply List.mem_cons_of_mem
    refine List.mem_filter.mpr ⟨lvL_mem.mpr ⟨w, e2, h2, h3⟩, ?_⟩
    simp only [Bool.and_eq_true, Bool.not_eq_true', beq_eq_false_iff_ne, ne_eq, Bool.and_eq_false_iff]
    refine ⟨e1, ?_⟩
    by_cases e4 : q.1 + 1 = i
    · right
      rw [h3, tr_cat]
      exact e3 e4
    · exact Or.inl e4
theorem LH_st2 {B : Nat} {ls ls' : Array Slot} {n : Nat} {L : List Value} {i : Nat} {v : Value} (h : LH B ls n L) (hi : i + 1 < L.length) (h' : lv_has ls' n ((i, tr B v) :: (lvL B L).filter (fun q => !(q.1 == i) && (!(q.1 == i + 1) && !(q.1 + 1 == i && q.2.category == 2))))) : LH B ls' n (st2 L i v) := by
  refine ⟨by rw [st2_len]; exact h.1, h'.1, h'.2.1, fun q hq => ?_⟩
  obtain ⟨w, h1, h2, h3⟩ := lvL_mem.mp hq
  apply h'.2.2
  rcases st2_at L i v q.1 w hi h1 h2 with ⟨e1, e2⟩ | ⟨e1, e0, e2, e3⟩
  · apply List.mem_cons.mpr
    left
    rw [Prod.ext_iff]
    exact ⟨e1, by rw [h3, e2]⟩
  · apply List.mem_cons_of_mem
    refine List.mem_filter.mpr ⟨lvL_mem.mpr ⟨w, e2, h2, h3⟩, ?_⟩
    simp only [Bool.and_eq_true, Bool.not_eq_true', beq_eq_false_iff_ne, ne_eq, Bool.and_eq_false_iff]
    refine ⟨e1, e0, ?_⟩
    by_cases e4 : q.1 + 1 = i
    · right
      rw [h3, tr_cat]
      exact e3 e4
    · exact Or.inl e4
def lay : List Value → List Value
  | [] => []
  | .long x :: t => .long x :: UU :: lay t
  | .double x :: t => .double x :: UU :: lay t
  | v :: t => v :: lay t
def ini (n : Nat) (as : List Value) : List Value := lay as ++ List.replicate (n - (lay as).length) UU
theorem lay_cons (v : Value) (t : List Value) : lay (v :: t) = if v.category = 2 then v :: UU :: lay t else v :: lay t := by
  cases v <;> simp [lay, Value.category]
theorem lay_len (B : Nat) : ∀ as : List Value, (lg_sl (as.map (tr B))).length = (lay as).length
  | [] => rfl
  | v :: t => by
    have ih := lay_len B t
    rw [lay_cons, List.map_cons]
    simp only [lg_sl, List.flatMap_cons, tr_cat, List.length_append] at ih ⊢
    split <;> simp [ih] <;> omega
theorem lay_at (B : Nat) : ∀ (as : List Value) (o j : Nat) (w : Value), (lay as)[j]? = some w → w ≠ UU → (o + j, tr B w) ∈ lv_args o (as.map (tr B))
  | [], o, j, w, h, _ => by simp [lay] at h
  | v :: t, o, j, w, h, hu => by
    rw [lay_cons] at h
    rw [List.map_cons]
    unfold lv_args
    rw [tr_cat]
    by_cases hc : v.category = 2
    · rw [if_pos hc] at h
      rw [if_pos hc]
      match j, h with
      | 0, h => simp at h; exact List.mem_cons.mpr (Or.inl (by rw [h]; rfl))
      | 1, h => simp at h; exact absurd h.symm hu
      | j + 2, h =>
        have h := lay_at B t (o + 2) j w (by simpa using h) hu
        apply List.mem_cons_of_mem
        rw [show o + (j + 2) = o + 2 + j by omega]
        exact h
    · rw [if_neg hc] at h
      rw [if_neg hc]
      match j, h with
      | 0, h => simp at h; exact List.mem_cons.mpr (Or.inl (by rw [h]; rfl))
      | j + 1, h =>
        have h := lay_at B t (o + 1) j w (by simpa using h) hu
        apply List.mem_cons_of_mem
        rw [show o + (j + 1) = o + 1 + j by omega]
        exact h
theorem LH_ini {B n : Nat} {as : List Value} (h : (lay as).length ≤ n) : LH B ((lg_sl (as.map (tr B)) ++ List.replicate (n - (lg_sl (as.map (tr B))).length) Slot.unset).toArray) n (ini n as) := by
  have h0 := lv_entry (as.map (tr B)) (n := n) (by rw [lay_len]; exact h)
  refine ⟨by simp [ini]; omega, h0.1, h0.2.1, fun q hq => ?_⟩
  obtain ⟨w, h1, h2, h3⟩ := lvL_mem.mp hq
  apply h0.2.2
  unfold ini at h1
  by_cases hl : q.1 < (lay as).length
  · rw [List.getElem?_append_left hl] at h1
    have h4 := lay_at B as 0 q.1 w h1 h2
    rw [Nat.zero_add] at h4
    rw [show q = (q.1, tr B w) from Prod.ext rfl h3]
    exact h4
  · rw [List.getElem?_append_right (by omega)] at h1
    exact absurd (List.eq_of_mem_replicate (List.mem_of_getElem? h1)) h2
