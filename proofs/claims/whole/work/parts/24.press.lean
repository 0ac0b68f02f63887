/-! Stuff.press. -/
theorem lcm_le {a b : Int} {m : Int} (ha : a ∣ m) (hb : b ∣ m) (hm : 0 < m) : Nat.lcm a.natAbs b.natAbs ≤ m.natAbs :=
  Nat.le_of_dvd (by omega) (Nat.lcm_dvd (Int.natAbs_dvd_natAbs.mpr ha) (Int.natAbs_dvd_natAbs.mpr hb))
section PRS
variable {Q : Option Value → HP → Prop} {bc bs : Nat} {h : HP}
theorem sp_press {Sf T1 T2 ai mo x o n1 n2 c1 c2 d1 d2 : Nat} {F O O2 F2 : Nat → Int} {u w b : Int}
    (kSf : kd h Sf = 5) (rai : hR h Sf 1 = some ai) (rmo : hR h Sf 2 = some mo) (kai : kd h ai = 1) (kmo : kd h mo = 1) (kx : kd h x = 1) (ko : kd h o = 1)
    (kT1 : kd h T1 = 6) (rc1 : hR h T1 0 = some c1) (rc2 : hR h T1 1 = some c2) (hn1 : hI h T1 3 = nI n1) (n18 : n1 ≤ 8) (C1 : COL h c1 n1 F) (C2 : COL h c2 n1 O)
    (kT2 : kd h T2 = 6) (rd1 : hR h T2 1 = some d1) (rd2 : hR h T2 0 = some d2) (hn2 : hI h T2 3 = nI n2) (n28 : n2 ≤ 8) (D1 : COL h d1 n2 O2) (D2 : COL h d2 n2 F2)
    (ne1 : x ≠ ai) (ne2 : x ≠ mo) (hr : RA h x u w) (hw : 0 < w) (hw2 : w ≤ 10000000) (hu0 : 0 ≤ u) (hu1 : u ≤ 1000 * w)
    (ex : ∃ i, i + 1 < n1 ∧ btw F u w i) (F0 : ∀ i, i < n1 → 0 ≤ F i) (O0 : ∀ i, i < n1 → 0 ≤ O i) (Om : ∀ i, i + 1 < n1 → O i ≤ O (i + 1)) (P0 : ∀ i, i < n2 → 0 ≤ F2 i) (Pm : ∀ i, i + 1 < n2 → F2 i ≤ F2 (i + 1)) (R0 : ∀ i, i < n2 → 0 ≤ O2 i)
    (hb : 1 ≤ b) (hb2 : b ≤ 100)
    (y : ∀ (i j : Nat) (h' : HP), i + 1 < n1 → btw F u w i → (∀ i', i' < i → ¬ btw F u w i') → j + 1 < n2 → btw O2 (bN F O u w i) (bD F w i) j → (∀ j', j' < j → ¬ btw O2 (bN F O u w i) (bD F w i) j') → Fr (fun _ => False) (fun q => q = ai ∨ q = mo ∨ q = o) h h' → RA h' o (rU (pN F O O2 F2 u w b i j) (pD F O2 w b i j)) (rL (pN F O O2 F2 u w b i j) (pD F O2 w b i j)) → Q (some (.int (1 : Int32))) h')
    (nn : ∀ (i : Nat) (h' : HP), i + 1 < n1 → btw F u w i → (∀ i', i' < i → ¬ btw F u w i') → (∀ j, j + 1 < n2 → ¬ btw O2 (bN F O u w i) (bD F w i) j) → Fr (fun _ => False) (fun q => q = ai ∨ q = mo ∨ q = o) h h' → Q (some (.int (0 : Int32))) h') :
    X 26 Q bc bs 0 [.ref Sf, .ref T1, .ref T2, .int (io b), .ref x, .ref o] [] h := by
  have wn : w.natAbs ≤ 10000000 := by omega
  refine b26_0 kT1 rc1 rc2 kSf rai ?_
  rw [show (0 : Int32) = nI 0 from rfl]
  refine sp_between (first := 0) kT1 hn1 n18 (by omega) C1 C2 kx kai hr hw (by omega) (by omega) (fun i _ hi hbi hfi => ?_) (fun hno => ?_)
  · -- the aim
    have hfi' : ∀ i', i' < i → ¬ btw F u w i' := fun i' q => hfi i' (Nat.zero_le _) q
    have fi := (C1.2.2 i (by omega)).2
    have fi1 := (C1.2.2 (i + 1) (by omega)).2
    have oi1 := (C2.2.2 (i + 1) (by omega)).2
    have f0 := F0 i (by omega)
    have dF : 0 < F (i + 1) - F i := by have := hbi.1; omega
    have dFn : (F (i + 1) - F i).natAbs ≤ 1000 := by omega
    have oDp : 0 < bD F w i := Int.mul_pos dF hw
    have oDn : (bD F w i).natAbs ≤ 1000 * 10000000 := nm_le dFn wn
    have oBN := bN_le (g := O) hbi (Om i hi)
    have o0 := O0 i (by omega)
    have oNn : (bN F O u w i).natAbs ≤ 1000 * (bD F w i).natAbs := by
      have t1 : 0 ≤ O i * bD F w i := Int.mul_nonneg o0 (by omega)
      have t2 : O (i + 1) * bD F w i ≤ 1000 * bD F w i := Int.mul_le_mul_of_nonneg_right (by omega) (by omega)
      omega
    have awp := rL_pos (u := bN F O u w i) oDp
    have awl := (r_le (u := bN F O u w i) oDp).2
    have aub := r_bound oDp oNn
    have auE := r_cross (u := bN F O u w i) oDp
    refine b26_19 (fun c => absurd c (by decide)) (fun _ => ?_)
    refine b26_22 kT2 rd1 rd2 kSf rai rmo ?_
    rw [show (0 : Int32) = nI 0 from rfl]
    refine sp_between (h := wR h ai _ _) (first := 0) (u := rU (bN F O u w i) (bD F w i)) (w := rL (bN F O u w i) (bD F w i)) kT2 hn2 n28 (by omega) D1 D2 kai kmo RA_wR awp (by omega) (by omega) (fun j _ hj hbj hfj => ?_) (fun hno => ?_)
    · -- the heat of that order
      have hbj' : btw O2 (bN F O u w i) (bD F w i) j := (btw_low oDp).mp hbj
      have hfj' : ∀ j', j' < j → ¬ btw O2 (bN F O u w i) (bD F w i) j' := fun j' q r => hfj j' (Nat.zero_le _) q ((btw_low oDp).mpr r)
      have p0 := (D1.2.2 j (by omega)).2
      have p1 := (D1.2.2 (j + 1) (by omega)).2
      have q1 := (D2.2.2 (j + 1) (by omega)).2
      have r0 := R0 j (by omega)
      have dO : 0 < O2 (j + 1) - O2 j := by have := hbj.1; omega
      have dOn : (O2 (j + 1) - O2 j).natAbs ≤ 1000 := by omega
      have low := bN_low (g := F2) (u := bN F O u w i) oDp hbj.1
      have hDp : 0 < hDn F O2 w i j := Int.mul_pos dO oDp
      have hDk := hD_k F O2 w i j
      have kkn : (kk2 F O2 i j).natAbs ≤ 1000 * 1000 := nm_le dOn dFn
      have hDn1 : (hDn F O2 w i j).natAbs ≤ 1000 * 1000 * 10000000 := by rw [hDk]; exact nm_le kkn wn
      have hBN := bN_le (g := F2) hbj' (Pm j hj)
      have f20 := P0 j (by omega)
      have hN0 : 0 ≤ hNn F O O2 F2 u w i j := by
        have t1 : 0 ≤ F2 j * bD O2 (bD F w i) j := Int.mul_nonneg f20 (Int.le_of_lt hDp)
        have t2 := hBN.1
        unfold hNn
        omega
      have hN1 : hNn F O O2 F2 u w i j ≤ 1000 * hDn F O2 w i j := by
        have t2 : F2 (j + 1) * bD O2 (bD F w i) j ≤ 1000 * bD O2 (bD F w i) j := Int.mul_le_mul_of_nonneg_right (by omega) (Int.le_of_lt hDp)
        have t3 := hBN.2
        unfold hNn hDn
        omega
      rw [low.1, low.2]
      show X 26 Q bc bs 43 _ [.int (1 : Int32)] (wR _ mo (rU (hNn F O O2 F2 u w i j) (hDn F O2 w i j)) (rL (hNn F O O2 F2 u w i j) (hDn F O2 w i j)))
      have mwp := rL_pos (u := hNn F O O2 F2 u w i j) hDp
      have mwd := rL_dvd (hNn F O O2 F2 u w i j) (hDn F O2 w i j)
      have mul_ := r_le (u := hNn F O O2 F2 u w i j) hDp
      have mub := r_bound (K := 1000) hDp (u := hNn F O O2 F2 u w i j) (by omega)
      have mu0 := r_nonneg hDp hN0
      have E3 := r_cross (u := hNn F O O2 F2 u w i j) hDp
      generalize rU (hNn F O O2 F2 u w i j) (hDn F O2 w i j) = mu at mub mu0 E3 mul_ ⊢
      generalize rL (hNn F O O2 F2 u w i j) (hDn F O2 w i j) = mw at mwp mwd mub E3 mul_ ⊢
      have wdh : w ∣ hDn F O2 w i j := by rw [hDk]; exact Int.dvd_mul_left _ _
      have lc1 := lcm_le mwd wdh hDp
      refine b26_43 (fun c => absurd c (by decide)) (fun _ => b26_46 kSf rmo kmo ?_)
      rw [show (-1 : Int32) = io (-1) from rfl]
      refine sp_putSum 1000 1000 kmo kmo kx RA_wR (RA_ne ne2 (RA_ne ne1 hr)) (Or.inr rfl) mwp hw (by omega) (by omega) mub (by omega) (fun _ => by omega) (fun _ => ?_) (fun c => absurd (by omega) c)
      have mwwp : 0 < mw * w := Int.mul_pos mwp hw
      have e5 : mu * w + -1 * (u * mw) = mu * w - u * mw := by grind
      rw [e5]
      have m1d : rL (mu * w - u * mw) (mw * w) ∣ hDn F O2 w i j := by
        refine rL_dvd' (u' := hNn F O O2 F2 u w i j - u * kk2 F O2 i j) mwwp hDp ?_
        rw [hDk] at E3 ⊢
        grind
      have m1p := rL_pos (u := mu * w - u * mw) mwwp
      have m1b := r_bound (K := 1000) (u := mu * w - u * mw) mwwp (by
        have t1 : 0 ≤ mu * w := Int.mul_nonneg mu0 (by omega)
        have t2 : mu * w ≤ 1000 * mw * w := Int.mul_le_mul_of_nonneg_right (by omega) (by omega)
        have t3 : 0 ≤ u * mw := Int.mul_nonneg hu0 (by omega)
        have t4 : u * mw ≤ 1000 * w * mw := Int.mul_le_mul_of_nonneg_right hu1 (by omega)
        have t5 : 1000 * mw * w = 1000 * (mw * w) := by grind
        have t6 : 1000 * w * mw = 1000 * (mw * w) := by grind
        omega)
      have E2 := r_cross (u := mu * w - u * mw) mwwp
      generalize rU (mu * w - u * mw) (mw * w) = m1u at m1b E2 ⊢
      generalize rL (mu * w - u * mw) (mw * w) = m1w at m1d m1p m1b E2 ⊢
      have m1le : m1w ≤ 10000000000000 := by
        have := Int.le_of_dvd hDp m1d
        omega
      refine b26_60 (fun _ => b26_65 kSf rmo kmo ?_) (fun c => absurd c (by decide))
      rw [(RA_wR (h := wR (wR h ai _ _) mo mu mw) (a := mo) (u := m1u) (w := m1w)).1, (RA_wR (h := wR (wR h ai _ _) mo mu mw) (a := mo) (u := m1u) (w := m1w)).2, show (100 : Int64) = jo 100 from rfl, i2l_jo (z := b) (by unfold IB; omega), jo_mul, jo_mul]
      have m1bp : 0 < m1w * b := Int.mul_pos m1p (by omega)
      have m1bn : (m1w * b).natAbs ≤ 10000000000000 * 100 := nm_le (by omega) (by omega)
      refine sp_put kmo (JBn (by omega)).1 (by omega) m1bp (JBn (by omega)).1 ?_
      have m2d : rL (m1u * 100) (m1w * b) ∣ hDn F O2 w i j * b := Int.dvd_trans (rL_dvd _ _) (Int.mul_dvd_mul m1d (Int.dvd_refl b))
      have m2p := rL_pos (u := m1u * 100) m1bp
      have E1 := r_cross (u := m1u * 100) m1bp
      obtain ⟨bn, hbn⟩ : ∃ bn : Nat, b = (bn : Int) := ⟨b.natAbs, by omega⟩
      have hbn1 : 1 ≤ bn := by omega
      have hbn2 : bn ≤ 100 := by omega
      have kb1 : 100000 ≤ (100000 / bn + 1) * bn := by
        have := Nat.div_add_mod 100000 bn
        have := Nat.mod_lt 100000 (show 0 < bn by omega)
        rw [Nat.add_mul, Nat.mul_comm (100000 / bn)]
        omega
      have kb2 : (100000 / bn + 1) * bn ≤ 100100 := by
        have := Nat.div_add_mod 100000 bn
        rw [Nat.add_mul, Nat.mul_comm (100000 / bn)]
        omega
      have m2b := r_bound (K := 100000 / bn + 1) (u := m1u * 100) m1bp (by
        rw [Int.natAbs_mul, Int.natAbs_mul, hbn, Int.natAbs_natCast]
        have t1 : (100000 / bn + 1) * (m1w.natAbs * bn) = (100000 / bn + 1) * bn * m1w.natAbs := by rw [Nat.mul_comm m1w.natAbs, ← Nat.mul_assoc]
        rw [t1]
        have t2 : 100000 * m1w.natAbs ≤ (100000 / bn + 1) * bn * m1w.natAbs := Nat.mul_le_mul_right _ kb1
        have t3 : (100 : Int).natAbs = 100 := rfl
        rw [t3]
        omega)
      have hDb : 0 < hDn F O2 w i j * b := Int.mul_pos hDp (by omega)
      have hDbn : (hDn F O2 w i j * b).natAbs ≤ 10000000000000 * bn := nm_le (by omega) (by omega)
      generalize rU (m1u * 100) (m1w * b) = m2u at E1 m2b ⊢
      generalize rL (m1u * 100) (m1w * b) = m2w at m2d m2p E1 m2b ⊢
      have m2le : m2w ≤ 1000000000000000 := by
        have := Int.le_of_dvd hDb m2d
        omega
      have lc2 := lcm_le (Int.dvd_trans wdh (Int.dvd_mul_right _ b)) m2d hDb
      have lc3 : Nat.lcm w.natAbs m2w.natAbs ≤ 1000000000000000 := by omega
      refine b26_93 kSf rmo ko ?_
      rw [show (1 : Int32) = io 1 from rfl]
      refine sp_putSum 1000 (100000 / bn + 1) ko kx kmo (RA_ne ne2 (RA_ne ne2 (RA_ne ne2 (RA_ne ne1 hr)))) RA_wR (Or.inl rfl) hw m2p (by omega) m2le (by omega) m2b (fun _ => ?_) (fun _ => ?_) (fun c => absurd lc3 c)
      · have s1 : (1000 + (100000 / bn + 1)) * Nat.lcm w.natAbs m2w.natAbs ≤ (1000 + (100000 / bn + 1)) * (10000000000000 * bn) := Nat.mul_le_mul_left _ (by omega)
        have s2 : (1000 + (100000 / bn + 1)) * (10000000000000 * bn) = 10000000000000 * (1000 * bn + (100000 / bn + 1) * bn) := by
          rw [Nat.mul_left_comm, Nat.add_mul]
        omega
      · have hwm : 0 < w * m2w := Int.mul_pos hw m2p
        have fin := r_same (u := u * m2w + 1 * (m2u * w)) (w := w * m2w) (u' := pN F O O2 F2 u w b i j) (w' := pD F O2 w b i j) hwm hDb ?_
        · rw [fin.1, fin.2]
          refine b26_105 (Or.inr rfl) (y i j _ hi hbi hfi' hj hbj' hfj' ?_ RA_wR)
          exact Fr.wR' (Fr.wR' (Fr.wR' (Fr.wR' (Fr.wR' Fr.rfl' (Or.inl rfl)) (Or.inr (Or.inl rfl))) (Or.inr (Or.inl rfl))) (Or.inr (Or.inl rfl))) (Or.inr (Or.inr rfl))
        · exact press_alg (k := kk2 F O2 i j) (hN := hNn F O O2 F2 u w i j) (hD := hDn F O2 w i j) (by omega) (by omega) (by rw [E1]; grind) E2 E3 hDk
    · refine b26_43 (fun _ => b26_63 ?_) (fun c => absurd rfl c)
      exact nn i _ hi hbi hfi' (fun j e r => hno j (Nat.zero_le _) e ((btw_low oDp).mpr r)) (Fr.wR' Fr.rfl' (Or.inl rfl))
  · obtain ⟨i, e1, e2⟩ := ex
    exact absurd e2 (hno i (Nat.zero_le _) e1)
end PRS
