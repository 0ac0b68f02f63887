/-! Table: its constructor, follows, canBe; pressure of the class. -/
def TBf (h : HP) (T n : Nat) : Prop := kd h T = 6 ∧ hR h T 0 = some (T + 1) ∧ hR h T 1 = some (T + 2) ∧ hR h T 2 = some (T + 3) ∧ hI h T 3 = nI n ∧ (kd h (T + 1) = 10 ∧ zl h (T + 1) = 8) ∧ (kd h (T + 2) = 10 ∧ zl h (T + 2) = 8) ∧ kd h (T + 3) = 10 ∧ zl h (T + 3) = 8
theorem TBf_fr {SI SJ : Nat → Prop} {h h1 : HP} (f : Fr SI SJ h h1) {T n : Nat} (hT : ¬ SI T) (c : TBf h T n) : TBf h1 T n := by
  unfold TBf at *
  rw [f.2.2.1 T hT]
  simp only [f.kd', f.zl', f.hR']
  exact c
section TBL
variable {Q : Option Value → HP → Prop} {bc bs : Nat} {h : HP}
theorem tc_loop {T rw_ n : Nat} {z2 : Int32} (tb : TBf h T n) (hn : n ≤ 8) (kr : kd h rw_ = 10) (zr : zl h rw_ = 40) (hd : rw_ < T)
    (nx : ∀ h', Fr (fun q => T + 1 ≤ q ∧ q ≤ T + 3) (fun _ => False) h h' → (∀ j, j < n → hI h' (T + 1) j = hI h rw_ (3 * j) ∧ hI h' (T + 2) j = hI h rw_ (3 * j + 1) ∧ hI h' (T + 3) j = hI h rw_ (3 * j + 2)) → Q none h') :
    ∀ (f i : Nat) (h' : HP), i + f = n → Fr (fun q => T + 1 ≤ q ∧ q ≤ T + 3) (fun _ => False) h h' → (∀ j, j < i → hI h' (T + 1) j = hI h rw_ (3 * j) ∧ hI h' (T + 2) j = hI h rw_ (3 * j + 1) ∧ hI h' (T + 3) j = hI h rw_ (3 * j + 2)) →
      X 29 Q bc bs 44 [.ref T, .ref rw_, .int z2, .int (nI i)] [] h' := by
  intro f
  induction f with
  | zero =>
    intro i h' hi fr hj
    have e : i = n := by omega
    subst e
    have tb' := TBf_fr fr (fun q => by omega) tb
    refine b29_44 tb'.1 (fun _ => b29_105 (nx h' fr hj)) (fun c => absurd ?_ c)
    rw [tb'.2.2.2.2.1, nI_leI (by omega) (by omega)]
    exact Nat.le_refl _
  | succ f ih =>
    intro i h' hi fr hj
    have tb' := TBf_fr fr (fun q => by omega) tb
    obtain ⟨t1, t2, t3, t4, t5, t6, t7, t8⟩ := tb'
    have kr' : kd h' rw_ = 10 := by rw [fr.kd']; exact kr
    have zr' : zl h' rw_ = 40 := by rw [fr.zl']; exact zr
    have er := fr.2.2.1 rw_ (show ¬ (T + 1 ≤ rw_ ∧ rw_ ≤ T + 3) by omega)
    have ci : (nI i).toNatClampNeg = i := nI_clamp (by omega)
    have vi : vp_in (nI i) 8 := vp_in_nI (by omega) (by omega)
    have e3 : (3 : Int32) * nI i = nI (3 * i) := nI_mul 3 i
    have e31 : nI (3 * i) + (1 : Int32) = nI (3 * i + 1) := nI_1 _
    have e32 : nI (3 * i) + (2 : Int32) = nI (3 * i + 2) := nI_add _ 2
    refine b29_44 t1 (fun c => absurd c ?_) (fun _ => b29_52 kr' (fun c => absurd c ?_) (fun _ => b29_62 t1 t2 kr' (by rw [zr', e3]; exact vp_in_nI (by omega) (by omega)) t6.1 (by rw [t6.2]; exact vi) t3 (by rw [zr', e3, e31]; exact vp_in_nI (by omega) (by omega)) t7.1 (by rw [t7.2]; exact vi) t4 (by rw [zr', e3, e32]; exact vp_in_nI (by omega) (by omega)) t8.1 (by rw [t8.2]; exact vi) ?_))
    · rw [t5, nI_leI (by omega) (by omega)]
      omega
    · rw [zr', e3, e32]
      show ¬ nI 40 ≤ _
      rw [nI_leI (by omega) (by omega)]
      omega
    · have x1 : ∀ (H : HP) (k : Nat) (v : Int32), hI (sI H (T + 1) i v) rw_ k = hI H rw_ k := fun H k v => by rw [hI_sI, if_neg (by omega)]
      have x2 : ∀ (H : HP) (k : Nat) (v : Int32), hI (sI H (T + 2) i v) rw_ k = hI H rw_ k := fun H k v => by rw [hI_sI, if_neg (by omega)]
      rw [ci, e3, e31, e32, nI_clamp (n := 3 * i) (by omega), nI_clamp (n := 3 * i + 1) (by omega), nI_clamp (n := 3 * i + 2) (by omega), x2, x1, x1, er, er, er, show nI i + (1 : Int32) = nI (i + 1) from nI_1 i]
      refine ih (i + 1) _ (by omega) (Fr.sI' (Fr.sI' (Fr.sI' fr ⟨by omega, by omega⟩) ⟨by omega, by omega⟩) ⟨by omega, by omega⟩) (fun j hj' => ⟨?_, ?_, ?_⟩)
      · rw [hI_sI, if_neg (by omega), hI_sI, if_neg (by omega), hI_sI, if_pos rfl]
        split
        · rename_i e; rw [e]
        · exact (hj j (by omega)).1
      · rw [hI_sI, if_neg (by omega), hI_sI, if_pos rfl]
        split
        · rename_i e; rw [e]
        · rw [hI_sI, if_neg (by omega)]
          exact (hj j (by omega)).2.1
      · rw [hI_sI, if_pos rfl]
        split
        · rename_i e; rw [e]
        · rw [hI_sI, if_neg (by omega), hI_sI, if_neg (by omega)]
          exact (hj j (by omega)).2.2
/-- the constructor of a table -/
theorem sp_table {rw_ n : Nat} (h2 : 2 ≤ n) (h8 : n ≤ 8) (kr : kd h rw_ = 10) (zr : zl h rw_ = 40) (hr : rw_ < h.1.length)
    (nx : ∀ h', Gr h h' → TBf h' h.1.length n → (∀ j, j < n → hI h' (h.1.length + 1) j = hI h rw_ (3 * j) ∧ hI h' (h.1.length + 2) j = hI h rw_ (3 * j + 1) ∧ hI h' (h.1.length + 3) j = hI h rw_ (3 * j + 2)) → Q none h') : X 29 Q 3 24 0 [.ref h.1.length, .ref rw_, .int (nI n), UU] [] (nw h 6 0) := by
  have l1 := len_nw h 6 0
  have l2 : (nw (nw h 6 0) 10 8).1.length = h.1.length + 2 := by rw [len_nw, l1]
  have l2' : (sR (nw (nw h 6 0) 10 8) h.1.length 0 (some (h.1.length + 1))).1.length = h.1.length + 2 := l2
  refine b29_0 (by omega) (by omega) ?_
  rw [l1]
  refine b29_9 (by rw [kd_nw', if_neg (by omega), kd_nw', if_pos rfl]) (by omega) (by omega) ?_
  rw [l2']
  have l3 : (nw (sR (nw (nw h 6 0) 10 8) h.1.length 0 (some (h.1.length + 1))) 10 8).1.length = h.1.length + 3 := by rw [len_nw, l2']
  have l3' : (sR (nw (sR (nw (nw h 6 0) 10 8) h.1.length 0 (some (h.1.length + 1))) 10 8) h.1.length 1 (some (h.1.length + 2))).1.length = h.1.length + 3 := l3
  refine b29_17 (by rw [kd_nw', if_neg (by omega), kd_sR, kd_nw', if_neg (by omega), kd_nw', if_pos rfl]) (by omega) (by omega) ?_
  rw [l3']
  refine b29_25 (by rw [kd_nw', if_neg (by omega), kd_sR, kd_nw', if_neg (by omega), kd_sR, kd_nw', if_neg (by omega), kd_nw', if_pos rfl]) (by rw [kd_nw', if_neg (by omega), kd_sR, kd_nw', if_neg (by omega), kd_sR, kd_nw', if_neg (by omega), kd_nw', if_pos rfl]) ?_
  have esz : (if (2 : Int32) < (if (8 : Int32) < nI n then (8 : Int32) else nI n) then (if (8 : Int32) < nI n then (8 : Int32) else nI n) else (2 : Int32)) = nI n := by
    have e8 : ¬ (8 : Int32) < nI n := by
      rw [show (8 : Int32) = nI 8 from rfl, nI_ltI (by omega) (by omega)]
      omega
    rw [if_neg e8]
    split
    · rfl
    · rename_i q
      rw [show (2 : Int32) = nI 2 from rfl, nI_ltI (by omega) (by omega)] at q
      rw [show n = 2 by omega]
      rfl
  rw [esz]
  have gr : Gr h (sI (sR (nw (sR (nw (sR (nw (nw h 6 0) 10 8) h.1.length 0 (some (h.1.length + 1))) 10 8) h.1.length 1 (some (h.1.length + 2))) 10 8) h.1.length 2 (some (h.1.length + 3))) h.1.length 3 (nI n)) := Gr.sI' (Gr.sR' (Gr.nw' (Gr.sR' (Gr.nw' (Gr.sR' (Gr.nw' (Gr.nw' Gr.rfl' 6 0) 10 8) (Nat.le_refl _)) 10 8) (Nat.le_refl _)) 10 8) (Nat.le_refl _)) (Nat.le_refl _)
  have tb : TBf (sI (sR (nw (sR (nw (sR (nw (nw h 6 0) 10 8) h.1.length 0 (some (h.1.length + 1))) 10 8) h.1.length 1 (some (h.1.length + 2))) 10 8) h.1.length 2 (some (h.1.length + 3))) h.1.length 3 (nI n)) h.1.length n := by
    unfold TBf
    simp only [kd_sI, kd_sR, zl_sI, zl_sR, hR_sI, hR_sR, kd_nw', zl_nw', hR_nw, l1, l2', l3', hI_sI, if_true]
    refine ⟨?_, ?_, ?_, ?_, trivial, ⟨?_, ?_⟩, ⟨?_, ?_⟩, ?_, ?_⟩ <;> simp
  generalize sI (sR (nw (sR (nw (sR (nw (nw h 6 0) 10 8) h.1.length 0 (some (h.1.length + 1))) 10 8) h.1.length 1 (some (h.1.length + 2))) 10 8) h.1.length 2 (some (h.1.length + 3))) h.1.length 3 (nI n) = h1 at gr tb ⊢
  have kz := gr.kz hr
  have er := (gr.2 rw_ hr).2.1
  refine tc_loop tb h8 (by rw [kz.1]; exact kr) (by rw [kz.2]; exact zr) hr (fun h' fr hj => nx h' ?_ (TBf_fr fr (fun q => by omega) tb) (fun j hj' => ?_)) n 0 h1 (by omega) Fr.rfl' (fun j hj => absurd hj (by omega))
  · refine ⟨by rw [fr.1]; exact gr.1, fun b hb => ⟨fun j => by rw [fr.hR']; exact (gr.2 b hb).1 j, fun j => by rw [fr.2.2.1 b (fun q => by omega)]; exact (gr.2 b hb).2.1 j, fun j => by rw [fr.2.2.2 b id]; exact (gr.2 b hb).2.2 j⟩⟩
  · obtain ⟨a1, a2, a3⟩ := hj j hj'
    exact ⟨by rw [a1, er], by rw [a2, er], by rw [a3, er]⟩
def CLS (h : HP) (T n : Nat) (F O W : Nat → Int) : Prop := ∀ i, i < n → (hI h (T + 1) i = io (F i) ∧ IB (F i)) ∧ (hI h (T + 2) i = io (O i) ∧ IB (O i)) ∧ hI h (T + 3) i = io (W i) ∧ IB (W i)
theorem sp_follows {T n i : Nat} {F O W : Nat → Int} (tb : TBf h T n) (h8 : n ≤ 8) (cl : CLS h T n F O W) (hi : i < n) (h0 : 0 < i)
    (y : F (i - 1) < F i ∧ O (i - 1) < O i ∧ (i = 1 → W 1 = W 0) ∧ (i ≠ 1 → W (i - 1) < W i) → Q (some (.int (1 : Int32))) h)
    (no : ¬ (F (i - 1) < F i ∧ O (i - 1) < O i ∧ (i = 1 → W 1 = W 0) ∧ (i ≠ 1 → W (i - 1) < W i)) → Q (some (.int (0 : Int32))) h) : X 31 Q bc bs 0 [.ref T, .int (nI i), UU] [] h := by
  obtain ⟨t1, t2, t3, t4, t5, t6, t7, t8⟩ := tb
  have ci : (nI i).toNatClampNeg = i := nI_clamp (by omega)
  have e1 : nI i - (1 : Int32) = nI (i - 1) := by
    obtain ⟨k, rfl⟩ : ∃ k, i = k + 1 := ⟨i - 1, by omega⟩
    exact nI_pred k
  have ci1 : (nI i - (1 : Int32)).toNatClampNeg = i - 1 := by rw [e1]; exact nI_clamp (by omega)
  have vi : vp_in (nI i) 8 := vp_in_nI (by omega) (by omega)
  have vi1 : vp_in (nI i - (1 : Int32)) 8 := by rw [e1]; exact vp_in_nI (by omega) (by omega)
  obtain ⟨⟨f1, f2⟩, ⟨o1, o2⟩, w1, w2⟩ := cl i hi
  obtain ⟨⟨f3, f4⟩, ⟨o3, o4⟩, w3, w4⟩ := cl (i - 1) (by omega)
  have ef : hI h (T + 1) (nI i).toNatClampNeg ≤ hI h (T + 1) (nI i - (1 : Int32)).toNatClampNeg ↔ F i ≤ F (i - 1) := by rw [ci, ci1, f1, f3, io_le f2 f4]
  have eo : hI h (T + 2) (nI i).toNatClampNeg ≤ hI h (T + 2) (nI i - (1 : Int32)).toNatClampNeg ↔ O i ≤ O (i - 1) := by rw [ci, ci1, o1, o3, io_le o2 o4]
  have ew : hI h (T + 3) (nI i).toNatClampNeg ≤ hI h (T + 3) (nI i - (1 : Int32)).toNatClampNeg ↔ W i ≤ W (i - 1) := by rw [ci, ci1, w1, w3, io_le w2 w4]
  have tail : ((i = 1 → W 1 = W 0) ∧ (i ≠ 1 → W (i - 1) < W i)) → X 31 Q bc bs 55 [.ref T, .int (nI i), .int (1 : Int32)] [] h := by
    intro hw
    refine b31_55 t1 t2 t6.1 (by rw [t6.2]; exact vi) (by rw [t6.2]; exact vi1) (fun c => b31_93 (no ?_)) (fun c => b31_72 t1 t3 t7.1 (by rw [t7.2]; exact vi) (by rw [t7.2]; exact vi1) (fun d => b31_93 (no ?_)) (fun d => b31_89 (y ?_)))
    · rw [ef] at c
      omega
    · rw [eo] at d
      omega
    · rw [ef] at c
      rw [eo] at d
      exact ⟨by omega, by omega, hw.1, hw.2⟩
  have one : nI i = (1 : Int32) ↔ i = 1 := by rw [show (1 : Int32) = nI 1 from rfl, nI_eq (by omega) (by omega)]
  refine b31_0 (fun c => ?_) (fun c => ?_)
  · rw [one] at c
    refine b31_28 t1 t4 t8.1 (by rw [t8.2]; exact vi) (by rw [t8.2]; exact vi1) (fun d => b31_49 (fun _ => b31_93 (no ?_)) (fun z => absurd rfl z)) (fun d => b31_45 (fun z => absurd z (by decide)) (fun _ => tail ?_))
    · rw [ew] at d
      intro z
      have := z.2.2.2 c
      omega
    · rw [ew] at d
      exact ⟨fun z => absurd z c, fun _ => by omega⟩
  · rw [one] at c
    subst c
    have z0 : (0 : Int32).toNatClampNeg = 0 := by decide
    have z1 : (1 : Int32).toNatClampNeg = 1 := by decide
    have e10 : hI h (T + 3) (1 : Int32).toNatClampNeg = hI h (T + 3) (0 : Int32).toNatClampNeg ↔ W 1 = W 0 := by
      have w3' : hI h (T + 3) 0 = io (W 0) := w3
      rw [z0, z1, w1, w3', io_eq w2 w4]
    refine b31_5 t1 t4 t8.1 (by rw [t8.2]; exact vp_in_nI (n := 1) (by omega) (by omega)) (by rw [t8.2]; exact vp_in_nI (n := 0) (by omega) (by omega)) (fun d => b31_24 (fun _ => b31_93 (no ?_)) (fun z => absurd rfl z)) (fun d => b31_20 (fun z => absurd z (by decide)) (fun _ => tail ?_))
    · rw [e10] at d
      exact fun z => d (z.2.2.1 rfl)
    · rw [e10] at d
      exact ⟨fun _ => d, fun z => absurd rfl z⟩
theorem cb_loop {T n : Nat} {F O W : Nat → Int} (tb : TBf h T n) (h8 : n ≤ 8) (cl : CLS h T n F O W)
    (y : pvalid n F O W → Q (some (.int (1 : Int32))) h) (no : ¬ pvalid n F O W → Q (some (.int (0 : Int32))) h) :
    ∀ (f i : Nat), i + f = n → (∀ j, j < i → okQ F O W j) → X 30 Q bc bs 2 [.ref T, .int (nI i)] [] h := by
  obtain ⟨t1, t2, t3, t4, t5, t6, t7, t8⟩ := id tb
  intro f
  induction f with
  | zero =>
    intro i hi hj
    have e : i = n := by omega
    subst e
    refine b30_2 t1 (fun _ => b30_80 (y hj)) (fun c => absurd ?_ c)
    rw [t5, nI_leI (by omega) (by omega)]
    exact Nat.le_refl _
  | succ f ih =>
    intro i hi hj
    have ci : (nI i).toNatClampNeg = i := nI_clamp (by omega)
    have vi : vp_in (nI i) 8 := vp_in_nI (by omega) (by omega)
    obtain ⟨⟨f1, f2⟩, ⟨o1, o2⟩, w1, w2⟩ := cl i (by omega)
    have bad : ¬ okQ F O W i → X 30 Q bc bs 72 [.ref T, .int (nI i)] [] h := fun hb => b30_72 (no (fun z => hb (z i (by omega))))
    have good : okQ F O W i → X 30 Q bc bs 74 [.ref T, .int (nI i)] [] h := fun hb => b30_74 (by
      rw [show nI i + (1 : Int32) = nI (i + 1) from nI_1 i]
      refine ih (i + 1) (by omega) (fun j hj' => ?_)
      rcases Nat.lt_or_ge j i with q | q
      · exact hj j q
      · rw [show j = i by omega]; exact hb)
    refine b30_2 t1 (fun c => absurd c ?_) (fun _ => b30_10 t1 t2 t6.1 (by rw [t6.2]; exact vi) ?_)
    · rw [t5, nI_leI (by omega) (by omega)]
      omega
    rw [ci, f1]
    refine sp_66 (fun c => b30_23 (fun z => absurd z (by decide)) (fun _ => b30_26 t1 t3 t7.1 (by rw [t7.2]; exact vi) ?_)) (fun c => b30_23 (fun _ => bad ?_) (fun z => absurd rfl z))
    · rw [ci, o1]
      refine sp_66 (fun d => b30_39 (fun z => absurd z (by decide)) (fun _ => b30_42 t1 t4 t8.1 (by rw [t8.2]; exact vi) ?_)) (fun d => b30_39 (fun _ => bad ?_) (fun z => absurd rfl z))
      · rw [ci, w1]
        refine sp_66 (fun e => b30_57 (fun z => absurd z (by decide)) (fun _ => b30_60 (fun z => good ?_) (fun z => b30_64 t1 (sp_follows tb h8 cl (by omega) ?_ (fun q => b30_69 (fun _ => good ?_) (fun u => absurd u (by decide))) (fun q => b30_69 (fun u => absurd rfl u) (fun _ => bad ?_)))))) (fun e => b30_57 (fun _ => bad ?_) (fun z => absurd rfl z))
        · simp only [Int32.le_iff_toInt_le, Int32.lt_iff_toInt_lt, Int64.le_iff_toInt_le, Int64.lt_iff_toInt_lt, Int32.toInt_toInt64, i32eq, i64eq, Int32.reduceToInt, Int64.reduceToInt, Int32.reduceOfInt] at c d e z
          rw [nI_toInt (by omega)] at z
          rw [io_toInt f2] at c
          rw [io_toInt o2] at d
          rw [io_toInt w2] at e
          exact ⟨⟨c, d, e⟩, fun u => absurd u (by omega)⟩
        · simp only [Int32.le_iff_toInt_le, Int32.lt_iff_toInt_lt, Int64.le_iff_toInt_le, Int64.lt_iff_toInt_lt, Int32.toInt_toInt64, i32eq, i64eq, Int32.reduceToInt, Int64.reduceToInt, Int32.reduceOfInt] at z
          rw [nI_toInt (by omega)] at z
          omega
        · simp only [Int32.le_iff_toInt_le, Int32.lt_iff_toInt_lt, Int64.le_iff_toInt_le, Int64.lt_iff_toInt_lt, Int32.toInt_toInt64, i32eq, i64eq, Int32.reduceToInt, Int64.reduceToInt, Int32.reduceOfInt] at c d e
          rw [io_toInt f2] at c
          rw [io_toInt o2] at d
          rw [io_toInt w2] at e
          exact ⟨⟨c, d, e⟩, fun _ => q⟩
        · simp only [Int32.le_iff_toInt_le, Int32.lt_iff_toInt_lt, Int64.le_iff_toInt_le, Int64.lt_iff_toInt_lt, Int32.toInt_toInt64, i32eq, i64eq, Int32.reduceToInt, Int64.reduceToInt, Int32.reduceOfInt] at z
          rw [nI_toInt (by omega)] at z
          exact fun u => q (u.2 (by omega))
        · simp only [Int32.le_iff_toInt_le, Int32.lt_iff_toInt_lt, Int64.le_iff_toInt_le, Int64.lt_iff_toInt_lt, Int32.toInt_toInt64, i32eq, i64eq, Int32.reduceToInt, Int64.reduceToInt, Int32.reduceOfInt] at e
          rw [io_toInt w2] at e
          exact fun u => e u.1.2.2
      · simp only [Int32.le_iff_toInt_le, Int32.lt_iff_toInt_lt, Int64.le_iff_toInt_le, Int64.lt_iff_toInt_lt, Int32.toInt_toInt64, i32eq, i64eq, Int32.reduceToInt, Int64.reduceToInt, Int32.reduceOfInt] at d
        rw [io_toInt o2] at d
        exact fun u => d u.1.2.1
    · simp only [Int32.le_iff_toInt_le, Int32.lt_iff_toInt_lt, Int64.le_iff_toInt_le, Int64.lt_iff_toInt_lt, Int32.toInt_toInt64, i32eq, i64eq, Int32.reduceToInt, Int64.reduceToInt, Int32.reduceOfInt] at c
      rw [io_toInt f2] at c
      exact fun u => c u.1.1
end TBL
