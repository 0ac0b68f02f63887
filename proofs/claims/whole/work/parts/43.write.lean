/-! write on both sides. -/
section WRITE
variable {Q : Option Value → HP → Prop} {bc bs : Nat} {h : HP} {A : AST}
theorem sp_keep {x k : Nat} {so v : Int32} (hx : kd h x = 3) (hr : hR h x 0 = some (x + 1)) (kr : kd h (x + 1) = 10) (zr : zl h (x + 1) = 40) (hso : hI h x 2 = so) (hk : k < 40) (nx : Q none (sI h (x + 1) k (cst so v))) : X 17 Q bc bs 0 [.ref x, .int (nI k), .int v] [] h := by
  have ck : (nI k).toNatClampNeg = k := nI_clamp (by omega)
  have vk : vp_in (nI k) (zl h (x + 1)) := by rw [zr]; exact vp_in_nI hk (by omega)
  refine b17_0 (sp_66 (fun c => b17_7 (fun _ => b17_11 hx (fun d => b17_40 hx hr kr vk ?_) (fun d => b17_51 hx hr kr vk ?_) (fun d e => b17_62 hx hr kr vk ?_)) (fun d => absurd d (by decide))) (fun c => absurd ?_ c))
  · simp only [hso, Int32.le_iff_toInt_le, Int32.lt_iff_toInt_lt, Int64.le_iff_toInt_le, Int64.lt_iff_toInt_lt, Int32.toInt_toInt64, i32eq, i64eq, Int32.reduceToInt, Int64.reduceToInt, Int32.reduceOfInt] at d
    unfold cst at nx
    rw [if_pos d] at nx
    rw [ck]
    exact nx
  · simp only [hso, Int32.le_iff_toInt_le, Int32.lt_iff_toInt_lt, Int64.le_iff_toInt_le, Int64.lt_iff_toInt_lt, Int32.toInt_toInt64, i32eq, i64eq, Int32.reduceToInt, Int64.reduceToInt, Int32.reduceOfInt] at d
    unfold cst at nx
    rw [if_neg (by omega), if_pos d] at nx
    rw [ck]
    exact nx
  · simp only [hso, Int32.le_iff_toInt_le, Int32.lt_iff_toInt_lt, Int64.le_iff_toInt_le, Int64.lt_iff_toInt_lt, Int32.toInt_toInt64, i32eq, i64eq, Int32.reduceToInt, Int64.reduceToInt, Int32.reduceOfInt] at d e
    unfold cst at nx
    rw [if_neg d, if_neg e] at nx
    rw [ck]
    exact nx
  · simp only [Int32.le_iff_toInt_le, Int32.lt_iff_toInt_lt, Int64.le_iff_toInt_le, Int64.lt_iff_toInt_lt, Int32.toInt_toInt64, i32eq, i64eq, Int32.reduceToInt, Int64.reduceToInt, Int32.reduceOfInt]
    rw [nI_toInt (by omega)]
    omega
theorem c_write {s i v : Int32} (g : Good A) (c : CI h A) (nx : ∀ h', FC h h' → CI h' (f_write A s i v).2 → Q (some (.int (f_write A s i v).1)) h') : X 42 Q bc bs 0 [.ref 0, .int s, .int i, .int v, UU] [] h := by
  have k0 : kd h 0 = 8 := c.1.k 0 (by decide) (by decide)
  refine b42_0 k0 (sp_sheetAt c.1 (fun j hj e => ?_) (fun hn => b42_5a k0 (sp_refuse g c (fun h' fc ci => b42_17 ?_))))
  · obtain ⟨q1, q2, q3, q4⟩ := sheet_k c.1 hj
    have cs := c.2.2.2.2.2.1 j hj
    have gs := g.2.2.2.2 j hj
    subst e
    have ef : f_write A (nI j) i v = (if (aS A j).1 = true then (if 0 ≤ i.toInt ∧ i.toInt < (aS A j).2.2.1 then (0, wZ (wS A j (true, (aS A j).2.1, (aS A j).2.2.1, fun k => if k = i.toInt.toNat then cst (aS A j).2.1 v else (aS A j).2.2.2 k)) 0) else (-3, wZ A (-3))) else (-2, wZ A (-2))) := by
      unfold f_write
      rw [nI_toInt (by omega), Int.toNat_natCast, if_pos (by omega)]
    cases hb : (aS A j).1 with
    | false =>
      have e0 := cs.1 hb
      rw [hb, if_neg (by decide)] at ef
      rw [ef] at nx
      exact b42_5b q1 (fun d => absurd e0 d) (fun _ => b42_26 k0 (sp_refuse g c (fun h' fc ci => b42_32 (nx h' fc ci))))
    | true =>
      obtain ⟨e1, e2, e3, e4⟩ := cs.2 hb
      rw [hb, if_pos rfl] at ef
      have el : (hI h (86 + 2 * j) 3 - (1 : Int32)).toInt = ((aS A j).2.2.1 : Int) - 1 := by
        rw [e3, nI_io, show (1 : Int32) = io 1 from rfl, io_sub, io_toInt (by unfold IB; omega)]
      refine b42_5b q1 (fun _ => b42_33 q1 (sp_66 (fun d => b42_45 (fun _ => b42_55 q1 ?_) (fun z => absurd z (by decide))) (fun d => b42_45 (fun z => absurd rfl z) (fun _ => b42_48 k0 (sp_refuse g c (fun h' fc ci => b42_54 ?_)))))) (fun d => absurd d (by rw [e1]; decide))
      · simp only [Int32.le_iff_toInt_le, Int32.lt_iff_toInt_lt, Int64.le_iff_toInt_le, Int64.lt_iff_toInt_lt, Int32.toInt_toInt64, i32eq, i64eq, Int32.reduceToInt, Int64.reduceToInt, Int32.reduceOfInt, el] at d
        obtain ⟨k, hk⟩ : ∃ k : Nat, i.toInt = k := ⟨i.toInt.toNat, by omega⟩
        have ei := toInt_io hk
        rw [if_pos (by omega)] at ef
        rw [ef] at nx
        subst ei
        rw [hk, Int.toNat_natCast] at nx
        refine sp_keep (k := k) q1 (by rw [q2]; congr 1; omega) (by rw [show 86 + 2 * j + 1 = 87 + 2 * j by omega]; exact q3) (by rw [show 86 + 2 * j + 1 = 87 + 2 * j by omega]; exact q4) e2 (by omega) ?_
        rw [show 86 + 2 * j + 1 = 87 + 2 * j by omega]
        have ci := CI_sheet (h' := sI h (87 + 2 * j) k (cst (aS A j).2.1 v)) (v := (true, (aS A j).2.1, (aS A j).2.2.1, fun k' => if k' = k then cst (aS A j).2.1 v else (aS A j).2.2.2 k')) g c hj (Fr.sI' Fr.rfl' (Or.inr rfl)) (fun z => by cases z) (fun _ => ⟨?_, ?_, ?_, fun i hi => ?_⟩)
        · have g' := Good_S (v := (true, (aS A j).2.1, (aS A j).2.2.1, fun k' => if k' = k then cst (aS A j).2.1 v else (aS A j).2.2.2 k')) (j := j) g gs
          exact b42_62 (ci.1.1.k 0 (by decide) (by decide)) (sp_accept g' ci.1 (fun h2 fc2 ci2 => b42_67 (nx h2 (ci.2.trans' fc2) ci2)))
        · rw [hI_sI, if_neg (by omega)]; exact e1
        · rw [hI_sI, if_neg (by omega)]; exact e2
        · rw [hI_sI, if_neg (by omega)]; exact e3
        · rw [hI_sI, if_pos rfl]
          show _ = if i = k then _ else _
          split
          · rfl
          · exact e4 i hi
      · simp only [Int32.le_iff_toInt_le, Int32.lt_iff_toInt_lt, Int64.le_iff_toInt_le, Int64.lt_iff_toInt_lt, Int32.toInt_toInt64, i32eq, i64eq, Int32.reduceToInt, Int64.reduceToInt, Int32.reduceOfInt, el] at d
        rw [if_neg (by omega)] at ef
        rw [ef] at nx
        exact nx h' fc ci
  · have e : f_write A s i v = (-1, wZ A (-1)) := by
      unfold f_write
      rw [if_neg hn]
    rw [e] at nx
    exact nx h' fc ci
theorem n_write {s i v : Int32} (hs : Str h) (g : Good A) (c : MI h A) (nx : ∀ h', FM h h' → MI h' (f_write A s i v).2 → Q (some (.int (f_write A s i v).1)) h') : X 76 Q bc bs 0 [.ref 115, .int s, .int i, .int v] [] h := by
  have k0 : kd h 115 = 9 := hs.k 115 (by decide) (by decide)
  refine b76_0 (sp_72 (fun d => b76_9 (fun _ => ?_) (fun z => absurd z (by decide))) (fun d => b76_9 (fun z => absurd rfl z) (fun _ => b76_12 k0 (sp_endsN hs c (by decide) (fun h' fm mi => b76_17 ?_)))))
  · simp only [Int32.le_iff_toInt_le, Int32.lt_iff_toInt_lt, Int64.le_iff_toInt_le, Int64.lt_iff_toInt_lt, Int32.toInt_toInt64, i32eq, i64eq, Int32.reduceToInt, Int64.reduceToInt, Int32.reduceOfInt] at d
    obtain ⟨j, hj⟩ : ∃ j : Nat, s.toInt = j := ⟨s.toInt.toNat, by omega⟩
    have es := toInt_io hj
    have hj4 : j < 4 := by omega
    have cj : (nI j).toNatClampNeg = j := nI_clamp (by omega)
    have vj : vp_in (nI j) 4 := vp_in_nI hj4 (by omega)
    subst es
    have cs := c.2.2.2.2.1 j hj4
    have gs := g.2.2.2.2 j hj4
    have ef : f_write A (nI j) i v = (if (aS A j).1 = true then (if 0 ≤ i.toInt ∧ i.toInt < (aS A j).2.2.1 then (0, wZ (wS A j (true, (aS A j).2.1, (aS A j).2.2.1, fun k => if k = i.toInt.toNat then cst (aS A j).2.1 v else (aS A j).2.2.2 k)) 0) else (-3, wZ A (-3))) else (-2, wZ A (-2))) := by
      unfold f_write
      rw [nI_toInt (by omega), Int.toNat_natCast, if_pos (by omega)]
    have k117 : kd h 117 = 10 := hs.k 117 (by decide) (by decide)
    have z117 : zl h 117 = 4 := hs.z 117 (by decide) (by decide)
    have k116 : kd h 116 = 10 := hs.k 116 (by decide) (by decide)
    have z116 : zl h 116 = 4 := hs.z 116 (by decide) (by decide)
    have k118 : kd h 118 = 10 := hs.k 118 (by decide) (by decide)
    have z118 : zl h 118 = 160 := hs.z 118 (by decide) (by decide)
    cases hb : (aS A j).1 with
    | false =>
      have e0 := cs.1 hb
      rw [hb, if_neg (by decide)] at ef
      rw [ef] at nx
      exact b76_18 (r1 := 117) k0 (hs.r 115 2 (by decide)) k117 (by rw [z117]; exact vj) (fun z => absurd (by rw [cj]; exact e0) z) (fun _ => b76_28 k0 (sp_endsN hs c (by decide) (fun h' fm mi => b76_34 (nx h' fm mi))))
    | true =>
      obtain ⟨e1, e2, e3⟩ := cs.2 hb
      rw [hb, if_pos rfl] at ef
      have el : (hI h 117 j - (1 : Int32)).toInt = ((aS A j).2.2.1 : Int) - 1 := by
        rw [e1, nI_io, show (1 : Int32) = io 1 from rfl, io_sub, io_toInt (by unfold IB; omega)]
      refine b76_18 (r1 := 117) k0 (hs.r 115 2 (by decide)) k117 (by rw [z117]; exact vj) (fun _ => b76_35 (r1 := 117) k0 (hs.r 115 2 (by decide)) k117 (by rw [z117]; exact vj) (sp_72 (fun w => b76_50 (fun _ => ?_) (fun z => absurd z (by decide))) (fun w => b76_50 (fun z => absurd rfl z) (fun _ => b76_53 k0 (sp_endsN hs c (by decide) (fun h' fm mi => b76_59 ?_)))))) (fun z => absurd z ?_)
      · rw [cj] at w
        simp only [Int32.le_iff_toInt_le, Int32.lt_iff_toInt_lt, Int64.le_iff_toInt_le, Int64.lt_iff_toInt_lt, Int32.toInt_toInt64, i32eq, i64eq, Int32.reduceToInt, Int64.reduceToInt, Int32.reduceOfInt, el] at w
        obtain ⟨k, hk⟩ : ∃ k : Nat, i.toInt = k := ⟨i.toInt.toNat, by omega⟩
        have ei := toInt_io hk
        rw [if_pos (by omega)] at ef
        rw [ef] at nx
        subst ei
        rw [hk, Int.toNat_natCast] at nx
        have e40 : (40 : Int32) * nI j + nI k = nI (40 * j + k) := by rw [show (40 : Int32) = nI 40 from rfl, nI_mul, nI_add]
        have vk : vp_in ((40 : Int32) * nI j + nI k) (zl h 118) := by rw [z118, e40]; exact vp_in_nI (by omega) (by omega)
        have fin : X 73 (fun v' h1 => X 76 Q bc bs 106 [.ref 115, .int (nI j), .int (nI k), .int v] (v'.toList ++ []) h1) 0 0 0 [.ref 115, .int (0 : Int32)] [] (sI h 118 (40 * j + k) (cst (aS A j).2.1 v)) := by
          have mi := MI_sheet (h' := sI h 118 (40 * j + k) (cst (aS A j).2.1 v)) (v := (true, (aS A j).2.1, (aS A j).2.2.1, fun k' => if k' = k then cst (aS A j).2.1 v else (aS A j).2.2.2 k')) c hj4 (Ff.sI' Ff.rfl' (Or.inr (Or.inr ⟨rfl, by omega, by omega⟩))) (fun z => by cases z) (fun _ => ⟨?_, ?_, fun i hi => ?_⟩)
          · exact sp_endsP (mi.2.str hs) mi.1 (by decide) (fun h2 fm2 mi2 => b76_106 (nx h2 (mi.2.trans' fm2) mi2))
          · rw [hI_sI, if_neg (by decide)]; exact e1
          · rw [hI_sI, if_neg (by decide)]; exact e2
          · rw [hI_sI, if_pos rfl]
            show _ = if i = k then _ else _
            by_cases q : i = k
            · rw [if_pos (by omega), if_pos q]
            · rw [if_neg (by omega), if_neg q]
              exact e3 i hi
        refine b76_60 (r1 := 118) (r2 := 116) k0 (hs.r 115 3 (by decide)) (hs.r 115 1 (by decide)) k116 (by rw [z116]; exact vj) (fun z => b76_84 (r1 := 116) k0 (hs.r 115 1 (by decide)) k116 (by rw [z116]; exact vj) (fun y => b76_99 k118 vk k0 ?_) (fun y => b76_94 k118 vk k0 ?_)) (fun z => b76_79 k118 vk k0 ?_)
        · rw [cj, e2] at z y
          simp only [Int32.le_iff_toInt_le, Int32.lt_iff_toInt_lt, Int64.le_iff_toInt_le, Int64.lt_iff_toInt_lt, Int32.toInt_toInt64, i32eq, i64eq, Int32.reduceToInt, Int64.reduceToInt, Int32.reduceOfInt] at z y
          rw [e40, nI_clamp (by omega)]
          unfold cst at fin
          rw [if_neg z, if_neg y] at fin
          exact fin
        · rw [cj, e2] at z y
          simp only [Int32.le_iff_toInt_le, Int32.lt_iff_toInt_lt, Int64.le_iff_toInt_le, Int64.lt_iff_toInt_lt, Int32.toInt_toInt64, i32eq, i64eq, Int32.reduceToInt, Int64.reduceToInt, Int32.reduceOfInt] at z y
          rw [e40, nI_clamp (by omega)]
          unfold cst at fin
          rw [if_neg z, if_pos y] at fin
          exact fin
        · rw [cj, e2] at z
          simp only [Int32.le_iff_toInt_le, Int32.lt_iff_toInt_lt, Int64.le_iff_toInt_le, Int64.lt_iff_toInt_lt, Int32.toInt_toInt64, i32eq, i64eq, Int32.reduceToInt, Int64.reduceToInt, Int32.reduceOfInt] at z
          rw [e40, nI_clamp (by omega)]
          unfold cst at fin
          rw [if_pos z] at fin
          exact fin
      · rw [cj] at w
        simp only [Int32.le_iff_toInt_le, Int32.lt_iff_toInt_lt, Int64.le_iff_toInt_le, Int64.lt_iff_toInt_lt, Int32.toInt_toInt64, i32eq, i64eq, Int32.reduceToInt, Int64.reduceToInt, Int32.reduceOfInt, el] at w
        rw [if_neg (by omega)] at ef
        rw [ef] at nx
        exact nx h' fm mi
      · rw [cj, e1]
        simp only [Int32.le_iff_toInt_le, Int32.lt_iff_toInt_lt, Int64.le_iff_toInt_le, Int64.lt_iff_toInt_lt, Int32.toInt_toInt64, i32eq, i64eq, Int32.reduceToInt, Int64.reduceToInt, Int32.reduceOfInt]
        rw [nI_toInt (by omega)]
        omega
  · simp only [Int32.le_iff_toInt_le, Int32.lt_iff_toInt_lt, Int64.le_iff_toInt_le, Int64.lt_iff_toInt_lt, Int32.toInt_toInt64, i32eq, i64eq, Int32.reduceToInt, Int64.reduceToInt, Int32.reduceOfInt] at d
    have e : f_write A s i v = (-1, wZ A (-1)) := by
      unfold f_write
      rw [if_neg d]
    rw [e] at nx
    exact nx h' fm mi
end WRITE
