/-! pressure of the reference. -/
section PREM2
variable {Q : Option Value → HP → Prop} {bc bs : Nat} {h : HP} {A : AST}
theorem pf_loop {j n np : Nat} {row : Nat → Int32} (hs : Str h) (hj : j < 4) (hn : n ≤ 8) (hnp : np < 10) (e4 : hI h 115 4 = nI np) (er : ∀ i, i < 40 → hI h 118 (40 * j + i) = row i)
    (nx : ∀ h', Ff (fun b i => (b = 120 ∨ b = 121 ∨ b = 122) ∧ 8 * np ≤ i ∧ i < 8 * np + 8) (fun _ _ => False) h h' → (∀ k, k < n → hI h' 120 (8 * np + k) = io (rwF row k) ∧ hI h' 121 (8 * np + k) = io (rwO row k) ∧ hI h' 122 (8 * np + k) = io (rwW row k)) → X 77 Q bc bs 380 [.ref 115, .int (nI j), .int (nI n), .int (nI n), UU] [] h') :
    ∀ (f i : Nat) (h' : HP), i + f = n → Ff (fun b i => (b = 120 ∨ b = 121 ∨ b = 122) ∧ 8 * np ≤ i ∧ i < 8 * np + 8) (fun _ _ => False) h h' → (∀ k, k < i → hI h' 120 (8 * np + k) = io (rwF row k) ∧ hI h' 121 (8 * np + k) = io (rwO row k) ∧ hI h' 122 (8 * np + k) = io (rwW row k)) →
      X 77 Q bc bs 284 [.ref 115, .int (nI j), .int (nI n), .int (nI i), UU] [] h' := by
  intro f
  induction f with
  | zero =>
    intro i h' hi fr hk
    have e : i = n := by omega
    subst e
    refine b77_284 (fun _ => nx h' fr hk) (fun c => absurd ?_ c)
    rw [nI_leI (by omega) (by omega)]
    exact Nat.le_refl _
  | succ f ih =>
    intro i h' hi fr hk
    have hs' := fr.str hs
    have k0 : kd h' 115 = 9 := hs'.k 115 (by decide) (by decide)
    have k118 : kd h' 118 = 10 := hs'.k 118 (by decide) (by decide)
    have z118 : zl h' 118 = 160 := hs'.z 118 (by decide) (by decide)
    have k120 : kd h' 120 = 10 := hs'.k 120 (by decide) (by decide)
    have z120 : zl h' 120 = 80 := hs'.z 120 (by decide) (by decide)
    have k121 : kd h' 121 = 10 := hs'.k 121 (by decide) (by decide)
    have z121 : zl h' 121 = 80 := hs'.z 121 (by decide) (by decide)
    have k122 : kd h' 122 = 10 := hs'.k 122 (by decide) (by decide)
    have z122 : zl h' 122 = 80 := hs'.z 122 (by decide) (by decide)
    have ea : (40 : Int32) * nI j + (3 : Int32) * nI i = nI (40 * j + 3 * i) := by
      rw [show (40 : Int32) = nI 40 from rfl, show (3 : Int32) = nI 3 from rfl, nI_mul, nI_mul, nI_add]
    have ea1 : nI (40 * j + 3 * i) + (1 : Int32) = nI (40 * j + (3 * i + 1)) := nI_1 _
    have ea2 : nI (40 * j + 3 * i) + (2 : Int32) = nI (40 * j + (3 * i + 2)) := nI_add _ 2
    have e8 : (8 : Int32) * nI np + nI i = nI (8 * np + i) := by rw [show (8 : Int32) = nI 8 from rfl, nI_mul, nI_add]
    have e4' : hI h' 115 4 = nI np := by rw [fr.2.2.1 115 4 (fun q => by omega)]; exact e4
    have r0 : hI h' 118 (40 * j + 3 * i) = row (3 * i) := by rw [fr.2.2.1 118 _ (fun q => by omega)]; exact er _ (by omega)
    have r1 : hI h' 118 (40 * j + (3 * i + 1)) = row (3 * i + 1) := by rw [fr.2.2.1 118 _ (fun q => by omega)]; exact er _ (by omega)
    have r2 : hI h' 118 (40 * j + (3 * i + 2)) = row (3 * i + 2) := by rw [fr.2.2.1 118 _ (fun q => by omega)]; exact er _ (by omega)
    have x1 : ∀ (H : HP) (k : Nat) (v : Int32), hI (sI H 120 k v) 115 4 = hI H 115 4 := fun H k v => by rw [hI_sI, if_neg (by decide)]
    have x2 : ∀ (H : HP) (k : Nat) (v : Int32), hI (sI H 121 k v) 115 4 = hI H 115 4 := fun H k v => by rw [hI_sI, if_neg (by decide)]
    have y1 : ∀ (H : HP) (k m : Nat) (v : Int32), hI (sI H 120 k v) 118 m = hI H 118 m := fun H k m v => by rw [hI_sI, if_neg (by decide)]
    have y2 : ∀ (H : HP) (k m : Nat) (v : Int32), hI (sI H 121 k v) 118 m = hI H 118 m := fun H k m v => by rw [hI_sI, if_neg (by decide)]
    have v8 : vp_in (nI (8 * np + i)) 80 := vp_in_nI (by omega) (by omega)
    refine b77_284 (fun c => absurd c ?_) (fun _ => b77_289 (r1 := 120) (r2 := 118) (r3 := 121) (r4 := 122) k0 (hs'.r 115 6 (by decide)) (hs'.r 115 3 (by decide)) k118 (by rw [z118, ea]; exact vp_in_nI (by omega) (by omega)) k120 (by rw [e4', e8, z120]; exact v8) (hs'.r 115 7 (by decide)) (by rw [z118, ea, ea1]; exact vp_in_nI (by omega) (by omega)) k121 (by rw [x1, e4', e8, z121]; exact v8) (hs'.r 115 8 (by decide)) (by rw [z118, ea, ea2]; exact vp_in_nI (by omega) (by omega)) k122 (by rw [x2, x1, e4', e8, z122]; exact v8) ?_)
    · rw [nI_leI (by omega) (by omega)]
      omega
    · rw [x2, x1, e4', e8, ea, ea1, ea2, nI_clamp (n := 8 * np + i) (by omega), nI_clamp (n := 40 * j + 3 * i) (by omega), nI_clamp (n := 40 * j + (3 * i + 1)) (by omega), nI_clamp (n := 40 * j + (3 * i + 2)) (by omega), y2, y1, y1, r0, r1, r2, show nI i + (1 : Int32) = nI (i + 1) from nI_1 i]
      refine ih (i + 1) _ (by omega) (Ff.sI' (Ff.sI' (Ff.sI' fr ⟨Or.inl rfl, by omega, by omega⟩) ⟨Or.inr (Or.inl rfl), by omega, by omega⟩) ⟨Or.inr (Or.inr rfl), by omega, by omega⟩) (fun k hk' => ⟨?_, ?_, ?_⟩)
      · rw [hI_sI, if_neg (by decide), hI_sI, if_neg (by decide), hI_sI, if_pos rfl]
        by_cases q : k = i
        · rw [if_pos (by omega), q]
          exact (io_of _).symm
        · rw [if_neg (by omega)]
          exact (hk k (by omega)).1
      · rw [hI_sI, if_neg (by decide), hI_sI, if_pos rfl]
        by_cases q : k = i
        · rw [if_pos (by omega), q]
          exact (io_of _).symm
        · rw [if_neg (by omega), hI_sI, if_neg (by decide)]
          exact (hk k (by omega)).2.1
      · rw [hI_sI, if_pos rfl]
        by_cases q : k = i
        · rw [if_pos (by omega), q]
          exact (io_of _).symm
        · rw [if_neg (by omega), hI_sI, if_neg (by decide), hI_sI, if_neg (by decide)]
          exact (hk k (by omega)).2.2
theorem n_pressure {s n : Int32} (hs : Str h) (g : Good A) (c : MI h A) (nx : ∀ h', FM h h' → MI h' (f_pressure A s n).2 → Q (some (.int (f_pressure A s n).1)) h') : X 77 Q bc bs 0 [.ref 115, .int s, .int n, UU, UU] [] h := by
  have k0 : kd h 115 = 9 := hs.k 115 (by decide) (by decide)
  have bad : ¬ (0 ≤ s.toInt ∧ s.toInt ≤ 3 ∧ 2 ≤ n.toInt ∧ n.toInt ≤ 8) → X 77 Q bc bs 26 [.ref 115, .int s, .int n, UU, UU] [] h := fun hb => by
    have e : f_pressure A s n = (-1, wZ A (-1)) := by
      unfold f_pressure
      rw [if_neg hb]
    rw [e] at nx
    exact b77_26 k0 (sp_endsN hs c (by decide) (fun h' fm mi => b77_31 (nx h' fm mi)))
  refine b77_0 (sp_72 (fun d => b77_9 (fun z => absurd z (by decide)) (fun _ => b77_12 (sp_72 (fun w => b77_23 (fun _ => ?_) (fun z => absurd z (by decide))) (fun w => b77_23 (fun z => absurd rfl z) (fun _ => bad ?_))))) (fun d => b77_9 (fun _ => bad ?_) (fun z => absurd rfl z)))
  · simp only [Int32.le_iff_toInt_le, Int32.lt_iff_toInt_lt, Int64.le_iff_toInt_le, Int64.lt_iff_toInt_lt, Int32.toInt_toInt64, i32eq, i64eq, Int32.reduceToInt, Int64.reduceToInt, Int32.reduceOfInt] at d w
    obtain ⟨j, hj⟩ : ∃ j : Nat, s.toInt = j := ⟨s.toInt.toNat, by omega⟩
    have es := toInt_io hj
    have hj4 : j < 4 := by omega
    obtain ⟨m, hm⟩ : ∃ m : Nat, n.toInt = m := ⟨n.toInt.toNat, by omega⟩
    have en := toInt_io hm
    subst es
    subst en
    rw [nI_toInt (by omega)] at d w
    have cj : (nI j).toNatClampNeg = j := nI_clamp (by omega)
    have vj : vp_in (nI j) 4 := vp_in_nI hj4 (by omega)
    have cs := c.2.2.2.2.1 j hj4
    have gs := g.2.2.2.2 j hj4
    have ef : f_pressure A (nI j) (nI m) = (if (aS A j).1 = true then (if 3 * (m : Int) ≤ (aS A j).2.2.1 then @ite _ (pvalid m (rwF (aS A j).2.2.2) (rwO (aS A j).2.2.2) (rwW (aS A j).2.2.2)) (Classical.propDecidable _) (if tnp (aT A) = 10 then (-5, wZ A (-5)) else (nI (tnp (aT A)), wZ (wT A (addT (aT A) m (aS A j).2.2.2)) 0)) (-1, wZ A (-1)) else (-3, wZ A (-3))) else (-2, wZ A (-2))) := by
      unfold f_pressure
      rw [hj, hm, Int.toNat_natCast, Int.toNat_natCast, if_pos (by omega)]
    have k117 : kd h 117 = 10 := hs.k 117 (by decide) (by decide)
    have z117 : zl h 117 = 4 := hs.z 117 (by decide) (by decide)
    cases hb : (aS A j).1 with
    | false =>
      have e0 := cs.1 hb
      rw [hb, if_neg (by decide)] at ef
      rw [ef] at nx
      exact b77_32 (r1 := 117) k0 (hs.r 115 2 (by decide)) k117 (by rw [z117]; exact vj) (fun z => absurd (by rw [cj]; exact e0) z) (fun _ => b77_42 k0 (sp_endsN hs c (by decide) (fun h' fm mi => b77_48 (nx h' fm mi))))
    | true =>
      obtain ⟨e1, e2, e3⟩ := cs.2 hb
      rw [hb, if_pos rfl] at ef
      have e3m : (3 : Int32) * nI m = nI (3 * m) := nI_mul 3 m
      refine b77_32 (r1 := 117) k0 (hs.r 115 2 (by decide)) k117 (by rw [z117]; exact vj) (fun _ => b77_49 (r1 := 117) k0 (hs.r 115 2 (by decide)) k117 (by rw [z117]; exact vj) (fun u => b77_68 ?_) (fun u => b77_61 k0 (sp_endsN hs c (by decide) (fun h' fm mi => b77_67 ?_)))) (fun z => absurd z ?_)
      · rw [cj, e1, e3m, nI_leI (by omega) (by omega)] at u
        rw [if_pos (by omega)] at ef
        refine pc_loop hs hj4 (by omega) e3 (fun pv => ?_) (fun pv x3 x4 => ?_) m 0 (by omega) (fun k hk => absurd hk (by omega))
        · rw [if_pos pv] at ef
          have h10 := g.1.1
          have enp := c.1.1
          have e10 : hI h 115 4 = (10 : Int32) ↔ tnp (aT A) = 10 := by rw [enp, show (10 : Int32) = nI 10 from rfl, nI_eq (by omega) (by omega)]
          refine b77_266 k0 (fun z => b77_282 ?_) (fun z => b77_275 k0 (sp_endsN hs c (by decide) (fun h' fm mi => b77_281 ?_)))
          · rw [e10] at z
            rw [if_neg z] at ef
            rw [ef] at nx
            refine pf_loop hs hj4 (by omega) (by omega) enp e3 (fun h1 f1 hv => ?_) m 0 h (by omega) Ff.rfl' (fun k hk => absurd hk (by omega))
            have hs1 := f1.str hs
            have enp1 : hI h1 115 4 = nI (tnp (aT A)) := by rw [f1.2.2.1 115 4 (fun q => by omega)]; exact enp
            refine b77_380 (r1 := 119) (hs1.k 115 (by decide) (by decide)) (hs1.r 115 5 (by decide)) (hs1.k 119 (by decide) (by decide)) (by rw [enp1, hs1.z 119 (c := 10) (by decide) (by decide)]; exact vp_in_nI (by omega) (by omega)) ?_
            have E : ∀ (k : Nat) (v : Int32), hI (sI h1 119 k v) 115 4 + (1 : Int32) = nI (tnp (aT A) + 1) := fun k v => by
              rw [hI_sI, if_neg (by decide), enp1]
              exact nI_1 _
            rw [enp1, E, hI_sI, if_pos rfl, if_pos rfl, nI_pred, nI_clamp (by omega)]
            have f2 : Ff (PTI (tnp (aT A))) (fun _ _ => False) h (sI (sI h1 119 (tnp (aT A)) (nI m)) 115 4 (nI (tnp (aT A) + 1))) := Ff.sI' (Ff.sI' (f1.weak (fun b i q => Or.inr (Or.inr q)) (fun _ _ q => q)) (Or.inr (Or.inl ⟨rfl, rfl⟩))) (Or.inl ⟨rfl, rfl⟩)
            have mi := MI_take (row := (aS A j).2.2.2) (n := m) g c f2 (by rw [hI_sI, if_pos rfl, if_pos rfl]) (by rw [hI_sI, if_neg (by decide), hI_sI, if_pos rfl, if_pos rfl]) (fun i hi => by
              rw [hI_sI, if_neg (by decide), hI_sI, if_neg (by decide), hI_sI, if_neg (by decide), hI_sI, if_neg (by decide), hI_sI, if_neg (by decide), hI_sI, if_neg (by decide)]
              exact hv i hi)
            exact sp_endsP (mi.2.str hs) mi.1 (by rw [nI_toInt (by omega)]; omega) (fun h' fm' mi' => b77_410 (nx h' (mi.2.trans' fm') mi'))
          · rw [e10] at z
            rw [if_pos z] at ef
            rw [ef] at nx
            exact nx h' fm mi
        · rw [if_neg pv] at ef
          rw [ef] at nx
          exact ⟨b77_145 k0 (sp_endsN hs c (by decide) (fun h' fm mi => b77_150 (nx h' fm mi))), b77_198 k0 (sp_endsN hs c (by decide) (fun h' fm mi => b77_203 (nx h' fm mi))), b77_230 k0 (sp_endsN hs c (by decide) (fun h' fm mi => b77_259 (nx h' fm mi))), b77_254 k0 (sp_endsN hs c (by decide) (fun h' fm mi => b77_259 (nx h' fm mi)))⟩
      · rw [cj, e1, e3m, nI_leI (by omega) (by omega)] at u
        rw [if_neg (by omega)] at ef
        rw [ef] at nx
        exact nx h' fm mi
      · rw [cj, e1]
        simp only [Int32.le_iff_toInt_le, Int32.lt_iff_toInt_lt, Int64.le_iff_toInt_le, Int64.lt_iff_toInt_lt, Int32.toInt_toInt64, i32eq, i64eq, Int32.reduceToInt, Int64.reduceToInt, Int32.reduceOfInt]
        rw [nI_toInt (by omega)]
        omega
  · simp only [Int32.le_iff_toInt_le, Int32.lt_iff_toInt_lt, Int64.le_iff_toInt_le, Int64.lt_iff_toInt_lt, Int32.toInt_toInt64, i32eq, i64eq, Int32.reduceToInt, Int64.reduceToInt, Int32.reduceOfInt] at d w
    omega
  · simp only [Int32.le_iff_toInt_le, Int32.lt_iff_toInt_lt, Int64.le_iff_toInt_le, Int64.lt_iff_toInt_lt, Int32.toInt_toInt64, i32eq, i64eq, Int32.reduceToInt, Int64.reduceToInt, Int32.reduceOfInt] at d
    omega
end PREM2
