/-! sheet, write on both sides. -/
def uSH (S : Nat → SHT) (n : Nat) (v : SHT) : Nat → SHT := fun k => if k = n then v else S k
def wS (A : AST) (n : Nat) (v : SHT) : AST := (aT A, aR A, aU A, aM A, uSH (aS A) n v, aZ A)
theorem CI_sheet {h h' : HP} {A : AST} (g : Good A) (c : CI h A) {j : Nat} (hj : j < 4) {v : SHT} (f : Fr (fun q => q = 86 + 2 * j ∨ q = 87 + 2 * j) (fun _ => False) h h') (v0 : v.1 = false → hI h' (86 + 2 * j) 1 = 0) (v1 : v.1 = true → hI h' (86 + 2 * j) 1 = 1 ∧ hI h' (86 + 2 * j) 2 = v.2.1 ∧ hI h' (86 + 2 * j) 3 = nI v.2.2.1 ∧ ∀ i, i < 40 → hI h' (87 + 2 * j) i = v.2.2.2 i) : CI h' (wS A j v) ∧ FC h h' := by
  obtain ⟨c1, c2, c3, c4, c5, c6, c7⟩ := c
  have n : ∀ q, q < 86 ∨ 93 < q → ¬ (q = 86 + 2 * j ∨ q = 87 + 2 * j) := fun q a b => by omega
  refine ⟨⟨f.str c1, TC_fr f (fun b q => n b (by omega)) (n 2 (by omega)) c2, RG_fr f (n _ (by omega)) (n _ (by omega)) (n _ (by omega)) (n _ (by omega)) c3, CU_fr f (fun R e => g.um e) (fun q a b => n q (by omega)) (fun q a b => id) c4, CM_fr f (fun q a b => n q (by omega)) (fun q a b => id) c5, fun s hs => ?_, by rw [f.2.2.1 0 (n 0 (by omega))]; exact c7⟩, FC_fr f (fun q a b => n q (by omega)) (fun _ _ _ => id)⟩
  show ((uSH (aS A) j v s).1 = false → _) ∧ ((uSH (aS A) j v s).1 = true → _)
  by_cases e : s = j
  · subst e
    have eu : uSH (aS A) s v s = v := by simp [uSH]
    show ((uSH (aS A) s v s).1 = false → hI h' (86 + 2 * s) 1 = 0) ∧ ((uSH (aS A) s v s).1 = true → hI h' (86 + 2 * s) 1 = 1 ∧ hI h' (86 + 2 * s) 2 = (uSH (aS A) s v s).2.1 ∧ hI h' (86 + 2 * s) 3 = nI (uSH (aS A) s v s).2.2.1 ∧ ∀ i, i < 40 → hI h' (87 + 2 * s) i = (uSH (aS A) s v s).2.2.2 i)
    rw [eu]
    exact ⟨v0, v1⟩
  · have eu : uSH (aS A) j v s = aS A s := by simp [uSH, e]
    show ((uSH (aS A) j v s).1 = false → hI h' (86 + 2 * s) 1 = 0) ∧ ((uSH (aS A) j v s).1 = true → hI h' (86 + 2 * s) 1 = 1 ∧ hI h' (86 + 2 * s) 2 = (uSH (aS A) j v s).2.1 ∧ hI h' (86 + 2 * s) 3 = nI (uSH (aS A) j v s).2.2.1 ∧ ∀ i, i < 40 → hI h' (87 + 2 * s) i = (uSH (aS A) j v s).2.2.2 i)
    rw [eu]
    have x1 := f.2.2.1 (86 + 2 * s) (fun q => by omega)
    have x2 := f.2.2.1 (87 + 2 * s) (fun q => by omega)
    simp only [x1, x2]
    exact c6 s hs
theorem MI_sheet {h h' : HP} {A : AST} (c : MI h A) {j : Nat} (hj : j < 4) {v : SHT} (f : Ff (fun b i => (b = 116 ∧ i = j) ∨ (b = 117 ∧ i = j) ∨ (b = 118 ∧ 40 * j ≤ i ∧ i < 40 * j + 40)) (fun _ _ => False) h h') (v0 : v.1 = false → hI h' 117 j = -1) (v1 : v.1 = true → hI h' 117 j = nI v.2.2.1 ∧ hI h' 116 j = v.2.1 ∧ ∀ i, i < 40 → hI h' 118 (40 * j + i) = v.2.2.2 i) : MI h' (wS A j v) ∧ FM h h' := by
  obtain ⟨c1, c2, c3, c4, c5, c6⟩ := c
  have e115 : ∀ i, hI h' 115 i = hI h 115 i := fun i => f.2.2.1 115 i (fun q => by omega)
  have e134 : ∀ i, hI h' 134 i = hI h 134 i := fun i => f.2.2.1 134 i (fun q => by omega)
  have e135 : ∀ i, hI h' 135 i = hI h 135 i := fun i => f.2.2.1 135 i (fun q => by omega)
  have e136 : ∀ i, hJ h' 136 i = hJ h 136 i := fun i => f.2.2.2 136 i id
  have e137 : ∀ i, hJ h' 137 i = hJ h 137 i := fun i => f.2.2.2 137 i id
  refine ⟨⟨TM_ff f (fun q => by omega) (fun q i _ _ z => by omega) c1, RM_ff f (fun q => by omega) (fun q i _ _ z => by omega) c2, ⟨fun e => by rw [e115]; exact c3.1 e, fun R e => ⟨by rw [e115]; exact (c3.2 R e).1, RunM_ff f (fun q => by omega) (fun q => by omega) (fun i q => by omega) (fun i q => by omega) (fun _ => id) (fun _ => id) (c3.2 R e).2⟩⟩, fun k hk => ?_, fun s hs => ?_, by rw [e115]; exact c6⟩, FM_ff f (fun b i q => by omega) (fun _ _ q => absurd q id)⟩
  · unfold KAt
    simp only [e134, e135, e136, e137]
    exact c4 k hk
  · by_cases e : s = j
    · subst e
      have eu : uSH (aS A) s v s = v := by simp [uSH]
      show ((uSH (aS A) s v s).1 = false → hI h' 117 s = -1) ∧ ((uSH (aS A) s v s).1 = true → hI h' 117 s = nI (uSH (aS A) s v s).2.2.1 ∧ hI h' 116 s = (uSH (aS A) s v s).2.1 ∧ ∀ i, i < 40 → hI h' 118 (40 * s + i) = (uSH (aS A) s v s).2.2.2 i)
      rw [eu]
      exact ⟨v0, v1⟩
    · have eu : uSH (aS A) j v s = aS A s := by simp [uSH, e]
      show ((uSH (aS A) j v s).1 = false → hI h' 117 s = -1) ∧ ((uSH (aS A) j v s).1 = true → hI h' 117 s = nI (uSH (aS A) j v s).2.2.1 ∧ hI h' 116 s = (uSH (aS A) j v s).2.1 ∧ ∀ i, i < 40 → hI h' 118 (40 * s + i) = (uSH (aS A) j v s).2.2.2 i)
      rw [eu]
      obtain ⟨a1, a2⟩ := c5 s hs
      refine ⟨fun q => by rw [f.2.2.1 117 s (fun q => by omega)]; exact a1 q, fun q => ⟨by rw [f.2.2.1 117 s (fun q => by omega)]; exact (a2 q).1, by rw [f.2.2.1 116 s (fun q => by omega)]; exact (a2 q).2.1, fun i hi => ?_⟩⟩
      rw [f.2.2.1 118 _ (fun q => by omega)]
      exact (a2 q).2.2 i hi
theorem Good_S {A : AST} (g : Good A) {j : Nat} {v : SHT} (hv : v.2.2.1 ≤ 40 ∧ 0 ≤ v.2.1.toInt ∧ v.2.1.toInt ≤ 2) : Good (wS A j v) := by
  obtain ⟨g1, g2, g3, g4, g5⟩ := g
  refine ⟨g1, g2, g3, g4, fun s hs => ?_⟩
  show (uSH (aS A) j v s).2.2.1 ≤ 40 ∧ 0 ≤ (uSH (aS A) j v s).2.1.toInt ∧ (uSH (aS A) j v s).2.1.toInt ≤ 2
  by_cases e : s = j
  · rw [show uSH (aS A) j v s = v by simp [uSH, e]]
    exact hv
  · rw [show uSH (aS A) j v s = aS A s by simp [uSH, e]]
    exact g5 s hs
def cst (so v : Int32) : Int32 := if so.toInt = 0 then v.toInt8.toInt32 else if so.toInt = 1 then v.toInt16.toInt32 else v
def f_sheet (A : AST) (s so n : Int32) : Int32 × AST := if 0 ≤ s.toInt ∧ s.toInt ≤ 3 ∧ 0 ≤ so.toInt ∧ so.toInt ≤ 2 ∧ n.toInt ≤ 40 then (if n.toInt < 0 then (-4, wZ (wS A s.toInt.toNat (false, 0, 0, fun _ => 0)) (-4)) else (n, wZ (wS A s.toInt.toNat (true, so, n.toInt.toNat, fun _ => 0)) 0)) else (-1, wZ A (-1))
def f_write (A : AST) (s i v : Int32) : Int32 × AST := if 0 ≤ s.toInt ∧ s.toInt ≤ 3 then (if (aS A s.toInt.toNat).1 = true then (if 0 ≤ i.toInt ∧ i.toInt < (aS A s.toInt.toNat).2.2.1 then (0, wZ (wS A s.toInt.toNat (true, (aS A s.toInt.toNat).2.1, (aS A s.toInt.toNat).2.2.1, fun k => if k = i.toInt.toNat then cst (aS A s.toInt.toNat).2.1 v else (aS A s.toInt.toNat).2.2.2 k)) 0) else (-3, wZ A (-3))) else (-2, wZ A (-2))) else (-1, wZ A (-1))
theorem G_sheet {A : AST} (g : Good A) (s so n : Int32) : Good (f_sheet A s so n).2 := by
  unfold f_sheet
  split
  · rename_i c
    split
    · exact Good_Z (Good_S g ⟨by decide, by decide, by decide⟩) _
    · refine Good_Z (Good_S g ⟨?_, c.2.2.1, c.2.2.2.1⟩) _
      show n.toInt.toNat ≤ 40
      omega
  · exact Good_Z g _
theorem G_write {A : AST} (g : Good A) (s i v : Int32) : Good (f_write A s i v).2 := by
  unfold f_write
  split
  · rename_i c
    split
    · split
      · refine Good_Z (Good_S g ?_) _
        exact g.2.2.2.2 s.toInt.toNat (by omega)
      · exact Good_Z g _
    · exact Good_Z g _
  · exact Good_Z g _
section SHEETS
variable {Q : Option Value → HP → Prop} {bc bs : Nat} {h : HP} {A : AST}
theorem sp_refuse {z : Int32} (g : Good A) (c : CI h A) (nx : ∀ h', FC h h' → CI h' (wZ A z) → Q (some (.int z)) h') : X 60 Q bc bs 0 [.ref 0, .int z] [] h := b60_0 (c.1.k 0 (by decide) (by decide)) (nx _ (CI_Z g c z).2 (CI_Z g c z).1)
theorem sp_accept {z : Int32} (g : Good A) (c : CI h A) (nx : ∀ h', FC h h' → CI h' (wZ A 0) → Q (some (.int z)) h') : X 61 Q bc bs 0 [.ref 0, .int z] [] h := b61_0 (c.1.k 0 (by decide) (by decide)) (nx _ (CI_Z g c 0).2 (CI_Z g c 0).1)
theorem sp_endsN {z : Int32} (hs : Str h) (c : MI h A) (hz : z.toInt < 0) (nx : ∀ h', FM h h' → MI h' (wZ A z) → Q (some (.int z)) h') : X 73 Q bc bs 0 [.ref 115, .int z] [] h := b73_0 (fun e => absurd (by simp only [Int32.le_iff_toInt_le, Int32.lt_iff_toInt_lt, Int64.le_iff_toInt_le, Int64.lt_iff_toInt_lt, Int32.toInt_toInt64, i32eq, i64eq, Int32.reduceToInt, Int64.reduceToInt, Int32.reduceOfInt] at e; omega) id) (fun _ => b73_5 (hs.k 115 (by decide) (by decide)) (nx _ (MI_Z c z).2 (MI_Z c z).1))
theorem sp_endsP {z : Int32} (hs : Str h) (c : MI h A) (hz : 0 ≤ z.toInt) (nx : ∀ h', FM h h' → MI h' (wZ A 0) → Q (some (.int z)) h') : X 73 Q bc bs 0 [.ref 115, .int z] [] h := b73_0 (fun _ => b73_9 (hs.k 115 (by decide) (by decide)) (nx _ (MI_Z c 0).2 (MI_Z c 0).1)) (fun e => absurd (by simp only [Int32.le_iff_toInt_le, Int32.lt_iff_toInt_lt, Int64.le_iff_toInt_le, Int64.lt_iff_toInt_lt, Int32.toInt_toInt64, i32eq, i64eq, Int32.reduceToInt, Int64.reduceToInt, Int32.reduceOfInt] at e; omega) id)
theorem sp_sheetAt {s : Int32} (hs : Str h) (y : ∀ j, j < 4 → s = nI j → Q (some (.ref (86 + 2 * j))) h) (n : ¬ (0 ≤ s.toInt ∧ s.toInt ≤ 3) → Q (some .null) h) : X 62 Q bc bs 0 [.ref 0, .int s] [] h := by
  refine b62_0 (sp_66 (fun c => b62_6 (fun d => absurd d (by decide)) (fun _ => ?_)) (fun c => b62_6 (fun _ => b62_18 (n ?_)) (fun d => absurd rfl d)))
  · simp only [Int32.le_iff_toInt_le, Int32.lt_iff_toInt_lt, Int64.le_iff_toInt_le, Int64.lt_iff_toInt_lt, Int32.toInt_toInt64, i32eq, i64eq, Int32.reduceToInt, Int64.reduceToInt, Int32.reduceOfInt] at c
    obtain ⟨j, hj⟩ : ∃ j : Nat, s.toInt = j := ⟨s.toInt.toNat, by omega⟩
    have e := toInt_io hj
    have hr : ∀ j, j < 4 → (1, j, 86 + 2 * j) ∈ RT := by decide +kernel
    refine b62_9 (r1 := 1) (r2 := 86 + 2 * j) (hs.k 0 (by decide) (by decide)) (hs.r 0 0 (by decide)) (by rw [hs.k 1 (c := 14) (by decide) (by decide)]; decide) (by rw [hs.k 1 (c := 14) (by decide) (by decide)]; decide) ?_ ?_ (y j (by omega) e)
    · rw [hs.z 1 (c := 4) (by decide) (by decide), e]
      exact vp_in_nI (by omega) (by omega)
    · rw [e, nI_clamp (by omega)]
      exact hs.r 1 j (hr j (by omega))
  · simp only [Int32.le_iff_toInt_le, Int32.lt_iff_toInt_lt, Int64.le_iff_toInt_le, Int64.lt_iff_toInt_lt, Int32.toInt_toInt64, i32eq, i64eq, Int32.reduceToInt, Int64.reduceToInt, Int32.reduceOfInt] at c
    exact c
theorem sheet_k {j : Nat} (hs : Str h) (hj : j < 4) : kd h (86 + 2 * j) = 3 ∧ hR h (86 + 2 * j) 0 = some (87 + 2 * j) ∧ kd h (87 + 2 * j) = 10 ∧ zl h (87 + 2 * j) = 40 := by
  have e : ∀ j, j < 4 → (86 + 2 * j, 0, 87 + 2 * j) ∈ RT ∧ (K0.getD (86 + 2 * j) (99, 0)).1 = 3 ∧ (K0.getD (87 + 2 * j) (99, 0)).1 = 10 ∧ (K0.getD (87 + 2 * j) (99, 0)).2 = 40 := by decide +kernel
  obtain ⟨e1, e2, e3, e4⟩ := e j hj
  exact ⟨hs.k _ e2 (by decide), hs.r _ 0 e1, hs.k _ e3 (by decide), hs.z _ e4 (by decide)⟩
theorem c_sheet {s so n : Int32} (g : Good A) (c : CI h A) (nx : ∀ h', FC h h' → CI h' (f_sheet A s so n).2 → Q (some (.int (f_sheet A s so n).1)) h') : X 41 Q bc bs 0 [.ref 0, .int s, .int so, .int n, UU] [] h := by
  have k0 : kd h 0 = 8 := c.1.k 0 (by decide) (by decide)
  refine b41_0 k0 (sp_sheetAt c.1 (fun j hj e => b41_5b (sp_66 (fun d => b41_18 (fun z => absurd z (by decide)) (fun _ => b41_21 (fun w => b41_33 (fun v => ?_) (fun v => ?_)) (fun w => b41_27 k0 (sp_refuse g c (fun h' fc ci => b41_32b ?_))))) (fun d => b41_18 (fun _ => b41_27 k0 (sp_refuse g c (fun h' fc ci => b41_32b ?_))) (fun z => absurd rfl z)))) (fun hn => b41_5a k0 (sp_refuse g c (fun h' fc ci => b41_32a ?_))))
  · obtain ⟨q1, q2, q3, q4⟩ := sheet_k c.1 hj
    subst e
    simp only [Int32.le_iff_toInt_le, Int32.lt_iff_toInt_lt, Int64.le_iff_toInt_le, Int64.lt_iff_toInt_lt, Int32.toInt_toInt64, i32eq, i64eq, Int32.reduceToInt, Int64.reduceToInt, Int32.reduceOfInt] at d w v
    have e : f_sheet A (nI j) so n = (n, wZ (wS A j (true, so, n.toInt.toNat, fun _ => 0)) 0) := by
      unfold f_sheet
      rw [nI_toInt (by omega), Int.toNat_natCast, if_pos (by omega), if_neg (by omega)]
    rw [e] at nx
    refine b41_50 q1 (sp_begin (h := h) (x := 86 + 2 * j) q1 (by rw [q2]; congr 1; omega) (by rw [show 86 + 2 * j + 1 = 87 + 2 * j by omega]; exact q3) (by rw [show 86 + 2 * j + 1 = 87 + 2 * j by omega]; exact q4) (fun h' fr a1 a2 a3 a4 => ?_))
    rw [show 86 + 2 * j + 1 = 87 + 2 * j by omega] at a4
    have ci := CI_sheet (v := (true, so, n.toInt.toNat, fun _ => 0)) g c hj (fr.weak (fun q z => by omega) (fun _ z => z)) (fun z => by cases z) (fun _ => ⟨a1, a2, by rw [a3]; exact toInt_io (n := n.toInt.toNat) (by omega), a4⟩)
    have g' := Good_S (v := (true, so, n.toInt.toNat, fun _ => 0)) (j := j) g ⟨by show n.toInt.toNat ≤ 40; omega, d.1, d.2⟩
    refine b41_57 (ci.1.1.k 0 (by decide) (by decide)) (sp_accept g' ci.1 (fun h2 fc2 ci2 => b41_62 (nx h2 (ci.2.trans' fc2) ci2)))
  · obtain ⟨q1, q2, q3, q4⟩ := sheet_k c.1 hj
    subst e
    simp only [Int32.le_iff_toInt_le, Int32.lt_iff_toInt_lt, Int64.le_iff_toInt_le, Int64.lt_iff_toInt_lt, Int32.toInt_toInt64, i32eq, i64eq, Int32.reduceToInt, Int64.reduceToInt, Int32.reduceOfInt] at d w v
    have e : f_sheet A (nI j) so n = (-4, wZ (wS A j (false, 0, 0, fun _ => 0)) (-4)) := by
      unfold f_sheet
      rw [nI_toInt (by omega), Int.toNat_natCast, if_pos (by omega), if_pos (by omega)]
    rw [e] at nx
    have ci := CI_sheet (v := (false, 0, 0, fun _ => 0)) g c hj (Fr.sI' (x := 86 + 2 * j) (j := 1) (v := 0) Fr.rfl' (Or.inl rfl)) (fun _ => by rw [hI_sI, if_pos rfl, if_pos rfl]) (fun z => by cases z)
    have g' := Good_S (v := (false, 0, 0, fun _ => 0)) (j := j) g ⟨by decide, by decide, by decide⟩
    exact b41_37 q1 k0 (sp_refuse g' ci.1 (fun h2 fc2 ci2 => b41_49 (nx h2 (ci.2.trans' fc2) ci2)))
  · subst e
    simp only [Int32.le_iff_toInt_le, Int32.lt_iff_toInt_lt, Int64.le_iff_toInt_le, Int64.lt_iff_toInt_lt, Int32.toInt_toInt64, i32eq, i64eq, Int32.reduceToInt, Int64.reduceToInt, Int32.reduceOfInt] at d w
    have e : f_sheet A (nI j) so n = (-1, wZ A (-1)) := by
      unfold f_sheet
      rw [if_neg (by omega)]
    rw [e] at nx
    exact nx h' fc ci
  · subst e
    simp only [Int32.le_iff_toInt_le, Int32.lt_iff_toInt_lt, Int64.le_iff_toInt_le, Int64.lt_iff_toInt_lt, Int32.toInt_toInt64, i32eq, i64eq, Int32.reduceToInt, Int64.reduceToInt, Int32.reduceOfInt] at d
    have e : f_sheet A (nI j) so n = (-1, wZ A (-1)) := by
      unfold f_sheet
      rw [if_neg (by omega)]
    rw [e] at nx
    exact nx h' fc ci
  · have e : f_sheet A s so n = (-1, wZ A (-1)) := by
      unfold f_sheet
      rw [if_neg (by omega)]
    rw [e] at nx
    exact nx h' fc ci
theorem ms_loop {j : Nat} {z2 z3 : Int32} (hs : Str h) (hj : j < 4) (nx : ∀ h', Ff (fun b i => b = 118 ∧ 40 * j ≤ i ∧ i < 40 * j + 40) (fun _ _ => False) h h' → (∀ i, i < 40 → hI h' 118 (40 * j + i) = 0) → X 75 Q bc bs 97 [.ref 115, .int (nI j), .int z2, .int z3, .int (nI 40)] [] h') :
    ∀ (f i : Nat) (h' : HP), i + f = 40 → Ff (fun b i => b = 118 ∧ 40 * j ≤ i ∧ i < 40 * j + 40) (fun _ _ => False) h h' → (∀ k, k < i → hI h' 118 (40 * j + k) = 0) → X 75 Q bc bs 71 [.ref 115, .int (nI j), .int z2, .int z3, .int (nI i)] [] h' := by
  intro f
  induction f with
  | zero =>
    intro i h' hi fr hk
    have e : i = 40 := by omega
    subst e
    exact b75_71 (fun _ => nx h' fr hk) (fun c => absurd (by decide) c)
  | succ f ih =>
    intro i h' hi fr hk
    have hs' := fr.str hs
    have e : (40 : Int32) * nI j + nI i = nI (40 * j + i) := by rw [show (40 : Int32) = nI 40 from rfl, nI_mul, nI_add]
    refine b75_71 (fun c => absurd c ?_) (fun _ => b75_78 (r1 := 118) (hs'.k 115 (by decide) (by decide)) (hs'.r 115 3 (by decide)) (hs'.k 118 (by decide) (by decide)) (by rw [hs'.z 118 (c := 160) (by decide) (by decide), e]; exact vp_in_nI (by omega) (by omega)) ?_)
    · rw [show (40 : Int32) = nI 40 from rfl, nI_leI (by omega) (by omega)]
      omega
    · rw [e, nI_clamp (by omega), show nI i + (1 : Int32) = nI (i + 1) from nI_1 i]
      refine ih (i + 1) _ (by omega) (Ff.sI' fr ⟨rfl, by omega, by omega⟩) (fun k hk' => ?_)
      rw [hI_sI, if_pos rfl]
      split
      · rfl
      · exact hk k (by omega)
theorem n_sheet {s so n : Int32} (hs : Str h) (c : MI h A) (nx : ∀ h', FM h h' → MI h' (f_sheet A s so n).2 → Q (some (.int (f_sheet A s so n).1)) h') : X 75 Q bc bs 0 [.ref 115, .int s, .int so, .int n, UU] [] h := by
  have k0 : kd h 115 = 9 := hs.k 115 (by decide) (by decide)
  have bad : ¬ (0 ≤ s.toInt ∧ s.toInt ≤ 3 ∧ 0 ≤ so.toInt ∧ so.toInt ≤ 2 ∧ n.toInt ≤ 40) → X 75 Q bc bs 30 [.ref 115, .int s, .int so, .int n, UU] [] h := fun hb => by
    have e : f_sheet A s so n = (-1, wZ A (-1)) := by
      unfold f_sheet
      rw [if_neg hb]
    rw [e] at nx
    exact b75_30 k0 (sp_endsN hs c (by decide) (fun h' fm mi => b75_35 (nx h' fm mi)))
  refine b75_0 (sp_72 (fun d => b75_9 (fun z => absurd z (by decide)) (fun _ => b75_12 (sp_72 (fun w => b75_21 (fun z => absurd z (by decide)) (fun _ => b75_24 (fun v => ?_) (fun v => bad ?_))) (fun w => b75_21 (fun _ => bad ?_) (fun z => absurd rfl z))))) (fun d => b75_9 (fun _ => bad ?_) (fun z => absurd rfl z)))
  · simp only [Int32.le_iff_toInt_le, Int32.lt_iff_toInt_lt, Int64.le_iff_toInt_le, Int64.lt_iff_toInt_lt, Int32.toInt_toInt64, i32eq, i64eq, Int32.reduceToInt, Int64.reduceToInt, Int32.reduceOfInt] at d w v
    obtain ⟨j, hj⟩ : ∃ j : Nat, s.toInt = j := ⟨s.toInt.toNat, by omega⟩
    have es := toInt_io hj
    have hj4 : j < 4 := by omega
    have cj : (nI j).toNatClampNeg = j := nI_clamp (by omega)
    have vj : vp_in (nI j) 4 := vp_in_nI hj4 (by omega)
    subst es
    refine b75_36 (r1 := 117) k0 (hs.r 115 2 (by decide)) (hs.k 117 (by decide) (by decide)) (by rw [hs.z 117 (c := 4) (by decide) (by decide)]; exact vj) (fun u => ?_) (fun u => ?_)
    · simp only [Int32.le_iff_toInt_le, Int32.lt_iff_toInt_lt, Int64.le_iff_toInt_le, Int64.lt_iff_toInt_lt, Int32.toInt_toInt64, i32eq, i64eq, Int32.reduceToInt, Int64.reduceToInt, Int32.reduceOfInt] at u
      have e : f_sheet A (nI j) so n = (n, wZ (wS A j (true, so, n.toInt.toNat, fun _ => 0)) 0) := by
        unfold f_sheet
        rw [nI_toInt (by omega), Int.toNat_natCast, if_pos (by omega), if_neg (by omega)]
      rw [e] at nx
      rw [cj]
      have f1 : Ff (fun b i => (b = 116 ∧ i = j) ∨ (b = 117 ∧ i = j) ∨ (b = 118 ∧ 40 * j ≤ i ∧ i < 40 * j + 40)) (fun _ _ => False) h (sI h 117 j (-1)) := Ff.sI' Ff.rfl' (Or.inr (Or.inl ⟨rfl, rfl⟩))
      have hs1 := f1.str hs
      refine b75_54 (r1 := 116) (r2 := 117) (hs1.k 115 (by decide) (by decide)) (hs1.r 115 1 (by decide)) (hs1.k 116 (by decide) (by decide)) (by rw [hs1.z 116 (c := 4) (by decide) (by decide)]; exact vj) (hs1.r 115 2 (by decide)) (hs1.k 117 (by decide) (by decide)) (by rw [hs1.z 117 (c := 4) (by decide) (by decide)]; exact vj) ?_
      rw [cj]
      have f2 : Ff (fun b i => (b = 116 ∧ i = j) ∨ (b = 117 ∧ i = j) ∨ (b = 118 ∧ 40 * j ≤ i ∧ i < 40 * j + 40)) (fun _ _ => False) h (sI (sI (sI h 117 j (-1)) 116 j so) 117 j n) := Ff.sI' (Ff.sI' f1 (Or.inl ⟨rfl, rfl⟩)) (Or.inr (Or.inl ⟨rfl, rfl⟩))
      refine ms_loop (f2.str hs) hj4 (fun h' fr hk => ?_) 40 0 _ (by omega) Ff.rfl' (fun k hk => absurd hk (by omega))
      have f3 := f2.trans' (fr.weak (fun b i q => Or.inr (Or.inr q)) (fun _ _ q => q))
      have mi := MI_sheet (v := (true, so, n.toInt.toNat, fun _ => 0)) c hj4 f3 (fun z => by cases z) (fun _ => ⟨?_, ?_, hk⟩)
      · have hs3 := f3.str hs
        refine b75_97 (hs3.k 115 (by decide) (by decide)) (sp_endsP hs3 mi.1 (by omega) (fun h2 fm2 mi2 => b75_102 (nx h2 (mi.2.trans' fm2) mi2)))
      · rw [fr.2.2.1 _ _ (fun q => by omega), hI_sI, if_pos rfl, if_pos rfl]
        exact toInt_io (n := n.toInt.toNat) (by omega)
      · rw [fr.2.2.1 _ _ (fun q => by omega), hI_sI, if_neg (by decide), hI_sI, if_pos rfl, if_pos rfl]
    · simp only [Int32.le_iff_toInt_le, Int32.lt_iff_toInt_lt, Int64.le_iff_toInt_le, Int64.lt_iff_toInt_lt, Int32.toInt_toInt64, i32eq, i64eq, Int32.reduceToInt, Int64.reduceToInt, Int32.reduceOfInt] at u
      have e : f_sheet A (nI j) so n = (-4, wZ (wS A j (false, 0, 0, fun _ => 0)) (-4)) := by
        unfold f_sheet
        rw [nI_toInt (by omega), Int.toNat_natCast, if_pos (by omega), if_pos (by omega)]
      rw [e] at nx
      rw [cj]
      have mi := MI_sheet (v := (false, 0, 0, fun _ => 0)) c hj4 (Ff.sI' (x := 117) (j := j) (v := -1) Ff.rfl' (Or.inr (Or.inl ⟨rfl, rfl⟩))) (fun _ => by rw [hI_sI, if_pos rfl, if_pos rfl]) (fun z => by cases z)
      exact b75_47 k0 (sp_endsN (mi.2.str hs) mi.1 (by decide) (fun h2 fm2 mi2 => b75_53 (nx h2 (mi.2.trans' fm2) mi2)))
  · simp only [Int32.le_iff_toInt_le, Int32.lt_iff_toInt_lt, Int64.le_iff_toInt_le, Int64.lt_iff_toInt_lt, Int32.toInt_toInt64, i32eq, i64eq, Int32.reduceToInt, Int64.reduceToInt, Int32.reduceOfInt] at d w v
    omega
  · simp only [Int32.le_iff_toInt_le, Int32.lt_iff_toInt_lt, Int64.le_iff_toInt_le, Int64.lt_iff_toInt_lt, Int32.toInt_toInt64, i32eq, i64eq, Int32.reduceToInt, Int64.reduceToInt, Int32.reduceOfInt] at d w
    omega
  · simp only [Int32.le_iff_toInt_le, Int32.lt_iff_toInt_lt, Int64.le_iff_toInt_le, Int64.lt_iff_toInt_lt, Int32.toInt_toInt64, i32eq, i64eq, Int32.reduceToInt, Int64.reduceToInt, Int32.reduceOfInt] at d
    omega
end SHEETS
