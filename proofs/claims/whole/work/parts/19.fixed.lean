/-! The fixed cells: kinds, lengths and references that never change behind the constructors (cell 3, the row of tables, apart). -/
def K0 : List (Nat × Nat) := [(8, 0), (14, 4), (5, 0), (16, 10), (1, 0), (1, 0), (2, 0), (10, 12), (10, 12), (10, 12), (7, 0), (15, 13), (10, 12), (1, 0), (1, 0), (1, 0), (1, 0), (4, 0), (1, 0), (4, 0), (1, 0), (4, 0), (1, 0), (4, 0), (1, 0), (4, 0), (1, 0), (4, 0), (1, 0), (4, 0), (1, 0), (4, 0), (1, 0), (4, 0), (1, 0), (4, 0), (1, 0), (4, 0), (1, 0), (4, 0), (1, 0), (4, 0), (1, 0), (13, 3), (2, 0), (10, 12), (10, 12), (10, 12), (7, 0), (15, 13), (10, 12), (1, 0), (1, 0), (1, 0), (1, 0), (4, 0), (1, 0), (4, 0), (1, 0), (4, 0), (1, 0), (4, 0), (1, 0), (4, 0), (1, 0), (4, 0), (1, 0), (4, 0), (1, 0), (4, 0), (1, 0), (4, 0), (1, 0), (4, 0), (1, 0), (4, 0), (1, 0), (4, 0), (1, 0), (4, 0), (1, 0), (4, 0), (1, 0), (1, 0), (1, 0), (1, 0), (3, 0), (10, 40), (3, 0), (10, 40), (3, 0), (10, 40), (3, 0), (10, 40), (0, 0), (2, 0), (10, 12), (10, 12), (10, 12), (4, 0), (1, 0), (0, 0), (2, 0), (10, 12), (10, 12), (10, 12), (4, 0), (1, 0), (0, 0), (2, 0), (10, 12), (10, 12), (10, 12), (4, 0), (1, 0), (9, 0), (10, 4), (10, 4), (10, 160), (10, 10), (10, 80), (10, 80), (10, 80), (10, 12), (10, 12), (10, 12), (10, 13), (11, 13), (11, 13), (10, 12), (10, 13), (11, 13), (11, 13), (10, 12), (12, 3), (10, 120), (11, 3), (11, 3), (10, 37)]
def RT : List (Nat × Nat × Nat) := [(0, 0, 1), (0, 1, 2), (0, 2, 6), (0, 3, 10), (0, 4, 43), (0, 5, 44), (0, 6, 48), (0, 7, 81), (0, 8, 83), (0, 9, 84), (0, 10, 85), (1, 0, 86), (1, 1, 88), (1, 2, 90), (1, 3, 92), (2, 0, 3), (2, 1, 4), (2, 2, 5), (6, 0, 7), (6, 1, 8), (6, 2, 9), (10, 0, 11), (10, 1, 12), (10, 2, 13), (10, 3, 14), (10, 4, 15), (10, 5, 16), (11, 0, 17), (11, 1, 19), (11, 2, 21), (11, 3, 23), (11, 4, 25), (11, 5, 27), (11, 6, 29), (11, 7, 31), (11, 8, 33), (11, 9, 35), (11, 10, 37), (11, 11, 39), (11, 12, 41), (17, 0, 18), (19, 0, 20), (21, 0, 22), (23, 0, 24), (25, 0, 26), (27, 0, 28), (29, 0, 30), (31, 0, 32), (33, 0, 34), (35, 0, 36), (37, 0, 38), (39, 0, 40), (41, 0, 42), (43, 0, 94), (43, 1, 101), (43, 2, 108), (44, 0, 45), (44, 1, 46), (44, 2, 47), (48, 0, 49), (48, 1, 50), (48, 2, 51), (48, 3, 52), (48, 4, 53), (48, 5, 54), (49, 0, 55), (49, 1, 57), (49, 2, 59), (49, 3, 61), (49, 4, 63), (49, 5, 65), (49, 6, 67), (49, 7, 69), (49, 8, 71), (49, 9, 73), (49, 10, 75), (49, 11, 77), (49, 12, 79), (55, 0, 56), (57, 0, 58), (59, 0, 60), (61, 0, 62), (63, 0, 64), (65, 0, 66), (67, 0, 68), (69, 0, 70), (71, 0, 72), (73, 0, 74), (75, 0, 76), (77, 0, 78), (79, 0, 80), (81, 0, 82), (86, 0, 87), (88, 0, 89), (90, 0, 91), (92, 0, 93), (94, 0, 95), (94, 1, 99), (95, 0, 96), (95, 1, 97), (95, 2, 98), (99, 0, 100), (101, 0, 102), (101, 1, 106), (102, 0, 103), (102, 1, 104), (102, 2, 105), (106, 0, 107), (108, 0, 109), (108, 1, 113), (109, 0, 110), (109, 1, 111), (109, 2, 112), (113, 0, 114), (115, 1, 116), (115, 2, 117), (115, 3, 118), (115, 5, 119), (115, 6, 120), (115, 7, 121), (115, 8, 122), (115, 12, 123), (115, 13, 124), (115, 14, 125), (115, 15, 126), (115, 16, 127), (115, 17, 128), (115, 18, 129), (115, 26, 130), (115, 27, 131), (115, 28, 132), (115, 29, 133), (115, 32, 134), (115, 33, 135), (115, 34, 136), (115, 35, 137), (115, 36, 138)]
def Str (h : HP) : Prop := (∃ tl, h.1 = K0 ++ tl) ∧ ∀ e ∈ RT, hR h e.1 e.2.1 = some e.2.2
theorem Str_start : Str hx318 := ⟨⟨[], by decide +kernel⟩, by decide +kernel⟩
theorem K0_len : K0.length = 139 := by decide +kernel
theorem Str_get {h : HP} (hs : Str h) {a : Nat} (ha : a < 139) : h.1.getD a (99, 0) = K0.getD a (99, 0) := by
  obtain ⟨⟨tl, e⟩, -⟩ := hs
  rw [e]
  simp only [List.getD]
  rw [List.getElem?_append_left (by rw [K0_len]; exact ha)]
/-- the kind of a fixed cell -/
theorem Str.k {h : HP} (hs : Str h) (a : Nat) {c : Nat} (hc : (K0.getD a (99, 0)).1 = c) (h9 : c < 99) : kd h a = c := by
  rcases Nat.lt_or_ge a 139 with g | g
  · unfold kd
    rw [Str_get hs g]
    exact hc
  · have e : K0.getD a (99, 0) = (99, 0) := by simp [List.getD, List.getElem?_eq_none (show K0.length ≤ a by rw [K0_len]; exact g)]
    rw [e] at hc
    omega
theorem Str.z {h : HP} (hs : Str h) (a : Nat) {c : Nat} (hc : (K0.getD a (99, 0)).2 = c) (h9 : 0 < c) : zl h a = c := by
  rcases Nat.lt_or_ge a 139 with g | g
  · unfold zl
    rw [Str_get hs g]
    exact hc
  · have e : K0.getD a (99, 0) = (99, 0) := by simp [List.getD, List.getElem?_eq_none (show K0.length ≤ a by rw [K0_len]; exact g)]
    rw [e] at hc
    simp at hc
    omega
theorem Str.r {h : HP} (hs : Str h) (a j : Nat) {b : Nat} (hm : (a, j, b) ∈ RT) : hR h a j = some b := hs.2 (a, j, b) hm
theorem Str_of {h h' : HP} (hs : Str h) (h1 : h'.1 = h.1) (h2 : h'.2.1 = h.2.1) : Str h' := by
  refine ⟨by rw [h1]; exact hs.1, fun e he => ?_⟩
  unfold hR
  rw [h2]
  exact hs.2 e he
theorem hI_sI (h : HP) (a j : Nat) (v : Int32) (b i : Nat) : hI (sI h a j v) b i = if b = a then (if i = j then v else hI h b i) else hI h b i := rfl
theorem hJ_sJ (h : HP) (a j : Nat) (v : Int64) (b i : Nat) : hJ (sJ h a j v) b i = if b = a then (if i = j then v else hJ h b i) else hJ h b i := rfl
theorem hR_sR (h : HP) (a j : Nat) (v : Option Nat) (b i : Nat) : hR (sR h a j v) b i = if b = a then (if i = j then v else hR h b i) else hR h b i := rfl
theorem hI_sJ (h : HP) (a j : Nat) (v : Int64) : hI (sJ h a j v) = hI h := rfl
theorem hI_sR (h : HP) (a j : Nat) (v : Option Nat) : hI (sR h a j v) = hI h := rfl
theorem hJ_sI (h : HP) (a j : Nat) (v : Int32) : hJ (sI h a j v) = hJ h := rfl
theorem hJ_sR (h : HP) (a j : Nat) (v : Option Nat) : hJ (sR h a j v) = hJ h := rfl
theorem hR_sI (h : HP) (a j : Nat) (v : Int32) : hR (sI h a j v) = hR h := rfl
theorem hR_sJ (h : HP) (a j : Nat) (v : Int64) : hR (sJ h a j v) = hR h := rfl
theorem kd_sI (h : HP) (a j : Nat) (v : Int32) : kd (sI h a j v) = kd h := rfl
theorem kd_sJ (h : HP) (a j : Nat) (v : Int64) : kd (sJ h a j v) = kd h := rfl
theorem kd_sR (h : HP) (a j : Nat) (v : Option Nat) : kd (sR h a j v) = kd h := rfl
theorem zl_sI (h : HP) (a j : Nat) (v : Int32) : zl (sI h a j v) = zl h := rfl
theorem zl_sJ (h : HP) (a j : Nat) (v : Int64) : zl (sJ h a j v) = zl h := rfl
theorem zl_sR (h : HP) (a j : Nat) (v : Option Nat) : zl (sR h a j v) = zl h := rfl
/-- from h to h' only the ints of the cells SI and the longs of the cells SJ have changed -/
def Fr (SI SJ : Nat → Prop) (h h' : HP) : Prop := h'.1 = h.1 ∧ h'.2.1 = h.2.1 ∧ (∀ b, ¬ SI b → ∀ i, hI h' b i = hI h b i) ∧ ∀ b, ¬ SJ b → ∀ i, hJ h' b i = hJ h b i
theorem Fr.rfl' {SI SJ : Nat → Prop} {h : HP} : Fr SI SJ h h := ⟨rfl, rfl, fun _ _ _ => rfl, fun _ _ _ => rfl⟩
theorem Fr.trans' {SI SJ : Nat → Prop} {h h1 h2 : HP} (a : Fr SI SJ h h1) (b : Fr SI SJ h1 h2) : Fr SI SJ h h2 := ⟨b.1.trans a.1, b.2.1.trans a.2.1, fun x hx i => (b.2.2.1 x hx i).trans (a.2.2.1 x hx i), fun x hx i => (b.2.2.2 x hx i).trans (a.2.2.2 x hx i)⟩
theorem Fr.weak {SI SJ TI TJ : Nat → Prop} {h h1 : HP} (a : Fr SI SJ h h1) (h2 : ∀ b, SI b → TI b) (h3 : ∀ b, SJ b → TJ b) : Fr TI TJ h h1 := ⟨a.1, a.2.1, fun x hx i => a.2.2.1 x (fun q => hx (h2 x q)) i, fun x hx i => a.2.2.2 x (fun q => hx (h3 x q)) i⟩
theorem Fr.str {SI SJ : Nat → Prop} {h h1 : HP} (a : Fr SI SJ h h1) (hs : Str h) : Str h1 := Str_of hs a.1 a.2.1
theorem Fr.sI' {SI SJ : Nat → Prop} {h h1 : HP} (a : Fr SI SJ h h1) {x j : Nat} {v : Int32} (hx : SI x) : Fr SI SJ h (sI h1 x j v) := ⟨a.1, a.2.1, fun b hb i => by have hne : b ≠ x := fun q => hb (by rw [q]; exact hx);   rw [hI_sI, if_neg hne]; exact a.2.2.1 b hb i, a.2.2.2⟩
theorem Fr.sJ' {SI SJ : Nat → Prop} {h h1 : HP} (a : Fr SI SJ h h1) {x j : Nat} {v : Int64} (hx : SJ x) : Fr SI SJ h (sJ h1 x j v) := ⟨a.1, a.2.1, a.2.2.1, fun b hb i => by have hne : b ≠ x := fun q => hb (by rw [q]; exact hx); rw [hJ_sJ, if_neg hne]; exact a.2.2.2 b hb i⟩
theorem Fr.wR' {SI SJ : Nat → Prop} {h h1 : HP} (a : Fr SI SJ h h1) {x : Nat} {u w : Int} (hx : SJ x) : Fr SI SJ h (wR h1 x u w) := Fr.sJ' (Fr.sJ' a hx) hx
theorem wR_up {h : HP} {a : Nat} {u w : Int} : hJ (wR h a u w) a 0 = jo u ∧ hJ (wR h a u w) a 1 = jo w := by
  unfold wR
  constructor <;> simp [hJ_sJ]
theorem wR_ne {h : HP} {a b : Nat} {u w : Int} (hb : b ≠ a) (i : Nat) : hJ (wR h a u w) b i = hJ h b i := by
  unfold wR
  rw [hJ_sJ, if_neg hb, hJ_sJ, if_neg hb]
