/-! the step is sound -/
theorem ok_all (k : Nat) (hk : k < 116) : chkM k = true := by
  rcases Nat.lt_or_ge k 4 with h0 | h0
  · have h9 := List.all_eq_true.mp ok_0 (k - 0) (List.mem_range.mpr (by omega))
    rwa [show k - 0 + 0 = k by omega] at h9
  rcases Nat.lt_or_ge k 8 with h4 | h4
  · have h9 := List.all_eq_true.mp ok_4 (k - 4) (List.mem_range.mpr (by omega))
    rwa [show k - 4 + 4 = k by omega] at h9
  rcases Nat.lt_or_ge k 12 with h8 | h8
  · have h9 := List.all_eq_true.mp ok_8 (k - 8) (List.mem_range.mpr (by omega))
    rwa [show k - 8 + 8 = k by omega] at h9
  rcases Nat.lt_or_ge k 16 with h12 | h12
  · have h9 := List.all_eq_true.mp ok_12 (k - 12) (List.mem_range.mpr (by omega))
    rwa [show k - 12 + 12 = k by omega] at h9
  rcases Nat.lt_or_ge k 20 with h16 | h16
  · have h9 := List.all_eq_true.mp ok_16 (k - 16) (List.mem_range.mpr (by omega))
    rwa [show k - 16 + 16 = k by omega] at h9
  rcases Nat.lt_or_ge k 24 with h20 | h20
  · have h9 := List.all_eq_true.mp ok_20 (k - 20) (List.mem_range.mpr (by omega))
    rwa [show k - 20 + 20 = k by omega] at h9
  rcases Nat.lt_or_ge k 28 with h24 | h24
  · have h9 := List.all_eq_true.mp ok_24 (k - 24) (List.mem_range.mpr (by omega))
    rwa [show k - 24 + 24 = k by omega] at h9
  rcases Nat.lt_or_ge k 32 with h28 | h28
  · have h9 := List.all_eq_true.mp ok_28 (k - 28) (List.mem_range.mpr (by omega))
    rwa [show k - 28 + 28 = k by omega] at h9
  rcases Nat.lt_or_ge k 36 with h32 | h32
  · have h9 := List.all_eq_true.mp ok_32 (k - 32) (List.mem_range.mpr (by omega))
    rwa [show k - 32 + 32 = k by omega] at h9
  rcases Nat.lt_or_ge k 40 with h36 | h36
  · have h9 := List.all_eq_true.mp ok_36 (k - 36) (List.mem_range.mpr (by omega))
    rwa [show k - 36 + 36 = k by omega] at h9
  rcases Nat.lt_or_ge k 44 with h40 | h40
  · have h9 := List.all_eq_true.mp ok_40 (k - 40) (List.mem_range.mpr (by omega))
    rwa [show k - 40 + 40 = k by omega] at h9
  rcases Nat.lt_or_ge k 48 with h44 | h44
  · have h9 := List.all_eq_true.mp ok_44 (k - 44) (List.mem_range.mpr (by omega))
    rwa [show k - 44 + 44 = k by omega] at h9
  rcases Nat.lt_or_ge k 52 with h48 | h48
  · have h9 := List.all_eq_true.mp ok_48 (k - 48) (List.mem_range.mpr (by omega))
    rwa [show k - 48 + 48 = k by omega] at h9
  rcases Nat.lt_or_ge k 56 with h52 | h52
  · have h9 := List.all_eq_true.mp ok_52 (k - 52) (List.mem_range.mpr (by omega))
    rwa [show k - 52 + 52 = k by omega] at h9
  rcases Nat.lt_or_ge k 60 with h56 | h56
  · have h9 := List.all_eq_true.mp ok_56 (k - 56) (List.mem_range.mpr (by omega))
    rwa [show k - 56 + 56 = k by omega] at h9
  rcases Nat.lt_or_ge k 64 with h60 | h60
  · have h9 := List.all_eq_true.mp ok_60 (k - 60) (List.mem_range.mpr (by omega))
    rwa [show k - 60 + 60 = k by omega] at h9
  rcases Nat.lt_or_ge k 68 with h64 | h64
  · have h9 := List.all_eq_true.mp ok_64 (k - 64) (List.mem_range.mpr (by omega))
    rwa [show k - 64 + 64 = k by omega] at h9
  rcases Nat.lt_or_ge k 72 with h68 | h68
  · have h9 := List.all_eq_true.mp ok_68 (k - 68) (List.mem_range.mpr (by omega))
    rwa [show k - 68 + 68 = k by omega] at h9
  rcases Nat.lt_or_ge k 76 with h72 | h72
  · have h9 := List.all_eq_true.mp ok_72 (k - 72) (List.mem_range.mpr (by omega))
    rwa [show k - 72 + 72 = k by omega] at h9
  rcases Nat.lt_or_ge k 80 with h76 | h76
  · have h9 := List.all_eq_true.mp ok_76 (k - 76) (List.mem_range.mpr (by omega))
    rwa [show k - 76 + 76 = k by omega] at h9
  rcases Nat.lt_or_ge k 84 with h80 | h80
  · have h9 := List.all_eq_true.mp ok_80 (k - 80) (List.mem_range.mpr (by omega))
    rwa [show k - 80 + 80 = k by omega] at h9
  rcases Nat.lt_or_ge k 88 with h84 | h84
  · have h9 := List.all_eq_true.mp ok_84 (k - 84) (List.mem_range.mpr (by omega))
    rwa [show k - 84 + 84 = k by omega] at h9
  rcases Nat.lt_or_ge k 92 with h88 | h88
  · have h9 := List.all_eq_true.mp ok_88 (k - 88) (List.mem_range.mpr (by omega))
    rwa [show k - 88 + 88 = k by omega] at h9
  rcases Nat.lt_or_ge k 96 with h92 | h92
  · have h9 := List.all_eq_true.mp ok_92 (k - 92) (List.mem_range.mpr (by omega))
    rwa [show k - 92 + 92 = k by omega] at h9
  rcases Nat.lt_or_ge k 100 with h96 | h96
  · have h9 := List.all_eq_true.mp ok_96 (k - 96) (List.mem_range.mpr (by omega))
    rwa [show k - 96 + 96 = k by omega] at h9
  rcases Nat.lt_or_ge k 104 with h100 | h100
  · have h9 := List.all_eq_true.mp ok_100 (k - 100) (List.mem_range.mpr (by omega))
    rwa [show k - 100 + 100 = k by omega] at h9
  rcases Nat.lt_or_ge k 108 with h104 | h104
  · have h9 := List.all_eq_true.mp ok_104 (k - 104) (List.mem_range.mpr (by omega))
    rwa [show k - 104 + 104 = k by omega] at h9
  rcases Nat.lt_or_ge k 112 with h108 | h108
  · have h9 := List.all_eq_true.mp ok_108 (k - 108) (List.mem_range.mpr (by omega))
    rwa [show k - 108 + 108 = k by omega] at h9
  rcases Nat.lt_or_ge k 116 with h112 | h112
  · have h9 := List.all_eq_true.mp ok_112 (k - 112) (List.mem_range.mpr (by omega))
    rwa [show k - 112 + 112 = k by omega] at h9
  omega
theorem dec_ok {k pc : Nat} {q : AI} (h : cd k pc = some q) : k < 116 ∧ decode (cM k) pc = .ok (q.1, lenI q.1 q.2.1) ∧ chkI k pc q = true := by
  have hb : pc < bnd.getD k 0 := by
    rcases Nat.lt_or_ge pc (bnd.getD k 0) with g | g
    · exact g
    · have e : Nat.ble (bnd.getD k 0) pc = true := Nat.ble_eq_true_of_le g
      unfold cd at h
      rw [e] at h
      cases h
  have hk : k < 116 := by
    rcases Nat.lt_or_ge k 116 with g | g
    · exact g
    · have e : bnd.getD k 0 = 0 := by
        have hl : bnd.length = 116 := by decide +kernel
        simp [List.getD, List.getElem?_eq_none (show bnd.length ≤ k by omega)]
      omega
  have h0 := ok_all k hk
  unfold chkM at h0
  have h1 := List.all_eq_true.mp h0 pc (List.mem_range.mpr hb)
  rw [h] at h1
  simp only [chkO, Bool.and_eq_true, decide_eq_true_eq] at h1
  exact ⟨hk, h1.1, h1.2⟩
theorem own10 {k : Nat} (hk : k < 116) : owM k < 10 := by
  have h0 : ((List.range 116).all fun k => decide (owM k < 10)) = true := by decide +kernel
  simpa using List.all_eq_true.mp h0 k (List.mem_range.mpr hk)
theorem ini_none {o idx k mode : Nat} (h : (o, idx, k, mode) ∈ MTab) (hm : mode = 3 ∨ mode = 4) : rtM k = none := by
  have h0 : (MTab.all fun e => decide (e.2.2.2 < 3) || decide (rtM e.2.2.1 = none)) = true := by decide +kernel
  have h1 := List.all_eq_true.mp h0 _ h
  simp only [Bool.or_eq_true, decide_eq_true_eq] at h1
  rcases h1 with h1 | h1
  · omega
  · exact h1
theorem not999 {o idx k mode : Nat} (h : (o, idx, k, mode) ∈ MTab) : k ≠ 999 := fun e => absurd (M_fact h).1 (by omega)
theorem okr_e {r : List Value} (h : okr r) : (r.map fun v => v.category).sum ≤ 8 := Nat.le_of_ble_eq_true h
theorem L_fact {o idx : Nat} {z : Int} (h : (o, idx, z) ∈ LTab) : Cond.constantLong (cn o) idx (Int64.ofInt z) ∈ TB := by
  have hl : LTab.length = LPos.length := by decide +kernel
  obtain ⟨i, hi⟩ := List.getElem?_of_mem h
  have hi2 : i < LPos.length := by rw [← hl]; exact (List.getElem?_eq_some_iff.mp hi).1
  have hz : ((o, idx, z), LPos[i]) ∈ LTab.zip LPos := by
    apply List.mem_of_getElem? (i := i)
    rw [List.getElem?_zip_eq_some]
    exact ⟨hi, List.getElem?_eq_getElem hi2⟩
  exact okP_in (List.all_eq_true.mp LTab_ok _ hz)
theorem O_fact {o idx : Nat} (h : (o, idx) ∈ OTab) : Cond.methodLink (cn o) idx objectInit ∈ TB := by
  have hl : OTab.length = OPos.length := by decide +kernel
  obtain ⟨i, hi⟩ := List.getElem?_of_mem h
  have hi2 : i < OPos.length := by rw [← hl]; exact (List.getElem?_eq_some_iff.mp hi).1
  have hz : ((o, idx), OPos[i]) ∈ OTab.zip OPos := by
    apply List.mem_of_getElem? (i := i)
    rw [List.getElem?_zip_eq_some]
    exact ⟨hi, List.getElem?_eq_getElem hi2⟩
  exact okP_in (List.all_eq_true.mp OTab_ok _ hz)
theorem fv_0 {t : FieldType} {r : Option Nat} {i : Int32} {j : Int64} (h : tcd t = 0) : fvA t r i j = .int i := by cases t <;> simp_all [tcd, fvA]
theorem fv_1 {t : FieldType} {r : Option Nat} {i : Int32} {j : Int64} (h : tcd t = 1) : fvA t r i j = .long j := by cases t <;> simp_all [tcd, fvA]
theorem fv_3 {t : FieldType} {r : Option Nat} {i : Int32} {j : Int64} (h : tcd t = 3) : fvA t r i j = .int i := by cases t <;> simp_all [tcd, fvA]
theorem fv_2 {t : FieldType} {r : Option Nat} {i : Int32} {j : Int64} (h : tcd t = 2) : fvA t r i j = va_rf r := by cases t <;> simp_all [tcd, fvA]
theorem tcd_z (t : FieldType) : tcd t = 0 ∨ tcd t = 1 ∨ tcd t = 2 ∨ tcd t = 3 := by cases t <;> simp [tcd]
section XS
variable {k bc bs pc : Nat} {Q : Option Value → HP → Prop} {L rest : List Value} {h : HP}
theorem x_getZ {idx a b : Nat} {z : Int} {x : Nat} {f : Value → Prop} (hd : decode (cM k) pc = .ok (.getfield idx, 3)) (hF : (owM k, idx, a, b) ∈ FTab) (hz : tcd (fty a b) = z) (hk : kd h x = a) (hf : ∀ y, f y → X k Q bc bs (pc + 3) L (y :: rest) h) (hs : gF z.toNat (hR h x b) (hI h x b) (hJ h x b) f) : X k Q bc bs pc L (.ref x :: rest) h := by
  refine x_get hd hF hk ?_
  rcases tcd_z (fty a b) with e | e | e | e
  · rw [fv_0 e]; rw [← hz, e] at hs; exact hf _ hs
  · rw [fv_1 e]; rw [← hz, e] at hs; exact hf _ hs
  · rw [fv_2 e]; rw [← hz, e] at hs; obtain ⟨o, h1, h2⟩ := hs; rw [h1]; exact hf _ h2
  · rw [fv_3 e]; rw [← hz, e] at hs; exact hf _ hs
theorem tcd_fit0 {t : FieldType} {v : Int32} (h : tcd t = 0) : (∀ B, narrow t (tr B (.int v)) = tr B (.int v)) ∧ ∀ B, fits t (tr B (.int v)) = true := by
  cases t <;> simp_all [tcd, tr, narrow, fits]
theorem tcd_fit1 {t : FieldType} {v : Int64} (h : tcd t = 1) : (∀ B, narrow t (tr B (.long v)) = tr B (.long v)) ∧ ∀ B, fits t (tr B (.long v)) = true := by
  cases t <;> simp_all [tcd, tr, narrow, fits]
theorem tcd_fit3 {t : FieldType} {v : Int32} (h : tcd t = 3) (hv : v = 0 ∨ v = 1) : (∀ B, narrow t (tr B (.int v)) = tr B (.int v)) ∧ ∀ B, fits t (tr B (.int v)) = true := by
  have ht : t = .boolean := by cases t <;> simp_all [tcd]
  subst ht
  rcases hv with rfl | rfl
  · exact ⟨fun _ => by show narrow .boolean (.int 0) = .int 0; decide +kernel, fun _ => by show fits .boolean (.int 0) = true; decide +kernel⟩
  · exact ⟨fun _ => by show narrow .boolean (.int 1) = .int 1; decide +kernel, fun _ => by show fits .boolean (.int 1) = true; decide +kernel⟩
theorem tcd_fit2 {t : FieldType} {r : Option Nat} (h : (∃ C, t = .object C) ∨ ∃ C, t = .array C) : (∀ B, narrow t (tr B (va_rf r)) = tr B (va_rf r)) ∧ ∀ B, fits t (tr B (va_rf r)) = true := by
  rcases h with ⟨C, rfl⟩ | ⟨C, rfl⟩ <;> cases r <;> exact ⟨fun _ => rfl, fun _ => rfl⟩
theorem x_putZ {idx a b : Nat} {z : Int} {st : List Value} {f : List Value → HP → Prop} (hd : decode (cM k) pc = .ok (.putfield idx, 3)) (hF : (owM k, idx, a, b) ∈ FTab) (hz : tcd (fty a b) = z) (hfin : (((clQ a).2.1 b).2.2.2 = true → (yM k).name = "<init>" ∧ ((clQ a).2.1 b).1 = cn (owM k))) (hf : ∀ r h1, f r h1 → X k Q bc bs (pc + 3) L r h1) (hs : pF z.toNat a b h st f) : X k Q bc bs pc L st h := by
  obtain ⟨f1, f2, f3⟩ := F_fact hF
  rcases tcd_z (fty a b) with e | e | e | e
  · rw [← hz, e] at hs
    simp only [pF, Int.toNat_zero] at hs
    split at hs
    · refine x_put (h' := sI h _ b _) hd hF hfin hs.1 rfl sI_ne (fun i hi => ⟨rfl, by simp [hI, sI, up2, hi], rfl⟩) ?_ (tcd_fit0 e).1 (tcd_fit0 e).2 (hf _ _ hs.2)
      rw [fv_0 e]; simp [hI, sI, up2]
    · exact hs.elim
  · rw [← hz, e] at hs
    simp only [pF, show (1 : Int).toNat = 1 from rfl] at hs
    split at hs
    · refine x_put (h' := sJ h _ b _) hd hF hfin hs.1 rfl sJ_ne (fun i hi => ⟨rfl, rfl, by simp [hJ, sJ, up2, hi]⟩) ?_ (tcd_fit1 e).1 (tcd_fit1 e).2 (hf _ _ hs.2)
      rw [fv_1 e]; simp [hJ, sJ, up2]
    · exact hs.elim
  · rw [← hz, e] at hs
    simp only [pF, show (2 : Int).toNat = 2 from rfl] at hs
    have hty : (∃ C, fty a b = .object C) ∨ ∃ C, fty a b = .array C := by
      rcases ty_all f1 f2 with q | q | q | q
      · omega
      · omega
      · omega
      · exact q
    split at hs
    · rename_i bb _ _
      refine x_put (v := va_rf (some bb)) (h' := sR h _ b (some bb)) hd hF hfin hs.1 rfl sR_ne (fun i hi => ⟨by simp [hR, sR, up2, hi], rfl, rfl⟩) ?_ (tcd_fit2 hty).1 (tcd_fit2 hty).2 (hf _ _ hs.2)
      rw [fv_2 e]; simp [hR, sR, up2]
    · refine x_put (v := va_rf none) (h' := sR h _ b none) hd hF hfin hs.1 rfl sR_ne (fun i hi => ⟨by simp [hR, sR, up2, hi], rfl, rfl⟩) ?_ (tcd_fit2 hty).1 (tcd_fit2 hty).2 (hf _ _ hs.2)
      rw [fv_2 e]; simp [hR, sR, up2]
    · exact hs.elim
  · rw [← hz, e] at hs
    simp only [pF, show (3 : Int).toNat = 3 from rfl] at hs
    split at hs
    · refine x_put (h' := sI h _ b _) hd hF hfin hs.1 rfl sI_ne (fun i hi => ⟨rfl, by simp [hI, sI, up2, hi], rfl⟩) ?_ (tcd_fit3 e hs.2.1).1 (tcd_fit3 e hs.2.1).2 (hf _ _ hs.2.2)
      rw [fv_3 e]; simp [hI, sI, up2]
    · exact hs.elim
theorem x_tsw {x : Int32} {d lo hi : Int} {offs : Array Int} {len : Nat} {F : Nat → Prop} (hd : decode (cM k) pc = .ok (.tableswitch d lo hi offs, len)) (h1 : 0 ≤ (pc : Int) + d) (h2 : ∀ o ∈ offs.toList, 0 ≤ (pc : Int) + o) (h3 : hi - lo + 1 = (offs.toList.length : Int)) (h4 : -1000 ≤ lo) (h5 : hi ≤ 1000) (hF : ∀ t, F t → X k Q bc bs t L rest h) (hsw : tsw pc F x d lo offs.toList) : X k Q bc bs pc L (.int x :: rest) h := by
  intro l D cA B p e R s m args below meth c H locs cells slots ls hC hc hs hB hRep hS hL
  obtain ⟨e1, e2⟩ := tsw_e offs.toList lo h4 (by omega) hsw
  by_cases ho : x.toInt < lo ∨ hi < x.toInt
  · exact lv_tableOut (tgt := ((pc : Int) + d).toNat) hC.1 hC.2.1 hd ho (by rw [Int.toNat_of_nonneg h1]) (hF _ (e1 (by omega)) l D cA B p e R s m args below meth c H locs cells slots ls hC hc hs hB hRep hS hL)
  · have hj : (x.toInt - lo).toNat < offs.toList.length := by omega
    have hg : offs.toList[(x.toInt - lo).toNat]? = some (offs.toList[(x.toInt - lo).toNat]) := List.getElem?_eq_getElem hj
    have hm := List.mem_of_getElem? hg
    refine lv_tableIn (off := offs.toList[(x.toInt - lo).toNat]) (tgt := ((pc : Int) + offs.toList[(x.toInt - lo).toNat]).toNat) hC.1 hC.2.1 hd (by omega) (by omega) ?_ (by rw [Int.toNat_of_nonneg (h2 _ hm)]) (hF _ (e2 _ _ hg (by omega)) l D cA B p e R s m args below meth c H locs cells slots ls hC hc hs hB hRep hS hL)
    rw [← Array.getElem?_toList]
    exact hg
theorem off_in (t : List (Int × Int)) (d v : Int) : Op.lookupswitch.offset t d v = d ∨ ∃ q ∈ t, Op.lookupswitch.offset t d v = q.2 := by
  induction t with
  | nil => exact Or.inl rfl
  | cons q t ih =>
    obtain ⟨q1, q2⟩ := q
    by_cases hv : q1 = v
    · exact Or.inr ⟨(q1, q2), List.mem_cons_self, by simp [Op.lookupswitch.offset, hv]⟩
    · have e : Op.lookupswitch.offset ((q1, q2) :: t) d v = Op.lookupswitch.offset t d v := by simp [Op.lookupswitch.offset, hv, show ¬ v = q1 from fun w => hv w.symm]
      rw [e]
      rcases ih with ih | ⟨q, hq, ih⟩
      · exact Or.inl ih
      · exact Or.inr ⟨q, List.mem_cons_of_mem _ hq, ih⟩
theorem x_lsw {x : Int32} {d : Int} {ps : Array (Int × Int)} {len : Nat} {F : Nat → Prop} (hd : decode (cM k) pc = .ok (.lookupswitch d ps, len)) (h1 : 0 ≤ (pc : Int) + d) (h2 : ∀ o ∈ ps.toList, 0 ≤ (pc : Int) + o.2 ∧ -100000 ≤ o.1 ∧ o.1 ≤ 100000) (h3 : (ps.toList.zip (ps.toList.drop 1)).all (fun (a, next) => a.1 < next.1) = true) (hF : ∀ t, F t → X k Q bc bs t L rest h) (hsw : lsw pc F x d ps.toList) : X k Q bc bs pc L (.int x :: rest) h := by
  intro l D cA B p e R s m args below meth c H locs cells slots ls hC hc hs hB hRep hS hL
  have h4 := lsw_e ps.toList (List.all_eq_true.mpr fun o ho => by simp [(h2 o ho).2.1, (h2 o ho).2.2]) hsw
  refine lv_lookup (tgt := ((pc : Int) + Op.lookupswitch.offset ps.toList d x.toInt).toNat) hC.1 hC.2.1 hd h3 rfl ?_ (hF _ h4 l D cA B p e R s m args below meth c H locs cells slots ls hC hc hs hB hRep hS hL)
  rcases off_in ps.toList d x.toInt with e | ⟨q, hq, e⟩
  · rw [e, Int.toNat_of_nonneg h1]
  · rw [e, Int.toNat_of_nonneg (h2 q hq).1]
end XS
set_option maxHeartbeats 4000000 in
theorem sim1 {k : Nat} {Q : Option Value → HP → Prop} {P : Nat → Nat → Nat → List Value → List Value → HP → Prop} {bc bs pc : Nat} {L st : List Value} {h : HP} (hP : ∀ bc bs pc L st h, P bc bs pc L st h → X k Q bc bs pc L st h) (hs : XStep k Q P bc bs pc L st h) : X k Q bc bs pc L st h := by
  unfold XStep at hs
  cases hq : cd k pc with
  | none => rw [hq] at hs; exact hs.elim
  | some q =>
    rw [hq] at hs
    obtain ⟨i, a, b, z, v, w⟩ := q
    obtain ⟨hk0, hd, hk⟩ := dec_ok hq
    dsimp only at hs hd
    cases i
    case iconst n =>
      dsimp only at hs
      simp only [chkI, Bool.and_eq_true, Bool.or_eq_true, Bool.not_eq_true', decide_eq_true_eq, decide_eq_false_iff_not] at hk
      exact x_iconst hd hk (hP _ _ _ _ _ _ hs)
    case bipush n =>
      dsimp only at hs
      simp only [chkI, Bool.and_eq_true, Bool.or_eq_true, Bool.not_eq_true', decide_eq_true_eq, decide_eq_false_iff_not] at hk
      exact x_bipush hd hk (hP _ _ _ _ _ _ hs)
    case sipush n =>
      dsimp only at hs
      simp only [chkI, Bool.and_eq_true, Bool.or_eq_true, Bool.not_eq_true', decide_eq_true_eq, decide_eq_false_iff_not] at hk
      exact x_sipush hd hk (hP _ _ _ _ _ _ hs)
    case lconst n =>
      dsimp only at hs
      simp only [chkI, Bool.and_eq_true, Bool.or_eq_true, Bool.not_eq_true', decide_eq_true_eq, decide_eq_false_iff_not] at hk
      exact x_lconst hd hk (hP _ _ _ _ _ _ hs)
    case ldc2_w n =>
      dsimp only at hs
      simp only [chkI, Bool.and_eq_true, Bool.or_eq_true, Bool.not_eq_true', decide_eq_true_eq, decide_eq_false_iff_not] at hk
      exact x_ldc2 hd (by rw [← hk.2]; exact L_fact hk.1) (hP _ _ _ _ _ _ hs)
    case aconst_null =>
      dsimp only at hs
      simp only [chkI, Bool.and_eq_true, Bool.or_eq_true, Bool.not_eq_true', decide_eq_true_eq, decide_eq_false_iff_not] at hk
      exact x_null hd (hP _ _ _ _ _ _ hs)
    case iload_n j =>
      dsimp only at hs
      simp only [chkI, Bool.and_eq_true, Bool.or_eq_true, Bool.not_eq_true', decide_eq_true_eq, decide_eq_false_iff_not] at hk
      obtain ⟨x, e, hs⟩ := oI_e hs
      exact x_iload_n hd e (hP _ _ _ _ _ _ hs)
    case iload j =>
      dsimp only at hs
      simp only [chkI, Bool.and_eq_true, Bool.or_eq_true, Bool.not_eq_true', decide_eq_true_eq, decide_eq_false_iff_not] at hk
      obtain ⟨x, e, hs⟩ := oI_e hs
      exact x_iload hd e (hP _ _ _ _ _ _ hs)
    case lload_n j =>
      dsimp only at hs
      simp only [chkI, Bool.and_eq_true, Bool.or_eq_true, Bool.not_eq_true', decide_eq_true_eq, decide_eq_false_iff_not] at hk
      obtain ⟨x, e, hs⟩ := oL_e hs
      exact x_lload_n hd e (hP _ _ _ _ _ _ hs)
    case lload j =>
      dsimp only at hs
      simp only [chkI, Bool.and_eq_true, Bool.or_eq_true, Bool.not_eq_true', decide_eq_true_eq, decide_eq_false_iff_not] at hk
      obtain ⟨x, e, hs⟩ := oL_e hs
      exact x_lload hd e (hP _ _ _ _ _ _ hs)
    case aload_n j =>
      dsimp only at hs
      simp only [chkI, Bool.and_eq_true, Bool.or_eq_true, Bool.not_eq_true', decide_eq_true_eq, decide_eq_false_iff_not] at hk
      rcases oA_e hs with ⟨x, e, hs⟩ | ⟨e, hs⟩
      · exact x_aload_n hd e (hP _ _ _ _ _ _ hs)
      · exact x_aload_nN hd e (hP _ _ _ _ _ _ hs)
    case istore_n j =>
      dsimp only at hs
      simp only [chkI, Bool.and_eq_true, Bool.or_eq_true, Bool.not_eq_true', decide_eq_true_eq, decide_eq_false_iff_not] at hk
      obtain ⟨x, r, rfl, hs⟩ := tI_e hs
      exact x_istore_n hd hk (hP _ _ _ _ _ _ hs)
    case lstore_n j =>
      dsimp only at hs
      simp only [chkI, Bool.and_eq_true, Bool.or_eq_true, Bool.not_eq_true', decide_eq_true_eq, decide_eq_false_iff_not] at hk
      obtain ⟨x, r, rfl, hs⟩ := tL_e hs
      exact x_lstore_n hd hk (hP _ _ _ _ _ _ hs)
    case astore_n j =>
      dsimp only at hs
      simp only [chkI, Bool.and_eq_true, Bool.or_eq_true, Bool.not_eq_true', decide_eq_true_eq, decide_eq_false_iff_not] at hk
      rcases tA_e hs with ⟨x, r, rfl, hs⟩ | ⟨r, rfl, hs⟩
      · exact x_astore_n hd hk (hP _ _ _ _ _ _ hs)
      · exact x_astore_nN hd hk (hP _ _ _ _ _ _ hs)
    case aload j =>
      dsimp only at hs
      simp only [chkI, Bool.and_eq_true, Bool.or_eq_true, Bool.not_eq_true', decide_eq_true_eq, decide_eq_false_iff_not] at hk
      rcases oA_e hs with ⟨x, e, hs⟩ | ⟨e, hs⟩
      · exact x_aload hd e (hP _ _ _ _ _ _ hs)
      · exact x_aloadN hd e (hP _ _ _ _ _ _ hs)
    case istore j =>
      dsimp only at hs
      simp only [chkI, Bool.and_eq_true, Bool.or_eq_true, Bool.not_eq_true', decide_eq_true_eq, decide_eq_false_iff_not] at hk
      obtain ⟨x, r, rfl, hs⟩ := tI_e hs
      exact x_istore hd hk (hP _ _ _ _ _ _ hs)
    case lstore j =>
      dsimp only at hs
      simp only [chkI, Bool.and_eq_true, Bool.or_eq_true, Bool.not_eq_true', decide_eq_true_eq, decide_eq_false_iff_not] at hk
      obtain ⟨x, r, rfl, hs⟩ := tL_e hs
      exact x_lstore hd hk (hP _ _ _ _ _ _ hs)
    case astore j =>
      dsimp only at hs
      simp only [chkI, Bool.and_eq_true, Bool.or_eq_true, Bool.not_eq_true', decide_eq_true_eq, decide_eq_false_iff_not] at hk
      rcases tA_e hs with ⟨x, r, rfl, hs⟩ | ⟨r, rfl, hs⟩
      · exact x_astore hd hk (hP _ _ _ _ _ _ hs)
      · exact x_astoreN hd hk (hP _ _ _ _ _ _ hs)
    case iinc j n =>
      dsimp only at hs
      simp only [chkI, Bool.and_eq_true, Bool.or_eq_true, Bool.not_eq_true', decide_eq_true_eq, decide_eq_false_iff_not] at hk
      obtain ⟨x, e, hs⟩ := oI_e hs
      exact x_iinc hd hk.2 e hk.1 (hP _ _ _ _ _ _ hs)
    case iadd =>
      dsimp only at hs
      simp only [chkI, Bool.and_eq_true, Bool.or_eq_true, Bool.not_eq_true', decide_eq_true_eq, decide_eq_false_iff_not] at hk
      obtain ⟨x, y, r, rfl, hs⟩ := tII_e hs
      exact x_iadd hd (hP _ _ _ _ _ _ hs)
    case isub =>
      dsimp only at hs
      simp only [chkI, Bool.and_eq_true, Bool.or_eq_true, Bool.not_eq_true', decide_eq_true_eq, decide_eq_false_iff_not] at hk
      obtain ⟨x, y, r, rfl, hs⟩ := tII_e hs
      exact x_isub hd (hP _ _ _ _ _ _ hs)
    case imul =>
      dsimp only at hs
      simp only [chkI, Bool.and_eq_true, Bool.or_eq_true, Bool.not_eq_true', decide_eq_true_eq, decide_eq_false_iff_not] at hk
      obtain ⟨x, y, r, rfl, hs⟩ := tII_e hs
      exact x_imul hd (hP _ _ _ _ _ _ hs)
    case iand =>
      dsimp only at hs
      simp only [chkI, Bool.and_eq_true, Bool.or_eq_true, Bool.not_eq_true', decide_eq_true_eq, decide_eq_false_iff_not] at hk
      obtain ⟨x, y, r, rfl, hs⟩ := tII_e hs
      exact x_iand hd (hP _ _ _ _ _ _ hs)
    case idiv =>
      dsimp only at hs
      simp only [chkI, Bool.and_eq_true, Bool.or_eq_true, Bool.not_eq_true', decide_eq_true_eq, decide_eq_false_iff_not] at hk
      obtain ⟨x, y, r, rfl, hs⟩ := tII_e hs
      exact x_idiv hd hs.1 (hP _ _ _ _ _ _ hs.2)
    case irem =>
      dsimp only at hs
      simp only [chkI, Bool.and_eq_true, Bool.or_eq_true, Bool.not_eq_true', decide_eq_true_eq, decide_eq_false_iff_not] at hk
      obtain ⟨x, y, r, rfl, hs⟩ := tII_e hs
      exact x_irem hd hs.1 (hP _ _ _ _ _ _ hs.2)
    case ladd =>
      dsimp only at hs
      simp only [chkI, Bool.and_eq_true, Bool.or_eq_true, Bool.not_eq_true', decide_eq_true_eq, decide_eq_false_iff_not] at hk
      obtain ⟨x, y, r, rfl, hs⟩ := tLL_e hs
      exact x_ladd hd (hP _ _ _ _ _ _ hs)
    case lsub =>
      dsimp only at hs
      simp only [chkI, Bool.and_eq_true, Bool.or_eq_true, Bool.not_eq_true', decide_eq_true_eq, decide_eq_false_iff_not] at hk
      obtain ⟨x, y, r, rfl, hs⟩ := tLL_e hs
      exact x_lsub hd (hP _ _ _ _ _ _ hs)
    case lmul =>
      dsimp only at hs
      simp only [chkI, Bool.and_eq_true, Bool.or_eq_true, Bool.not_eq_true', decide_eq_true_eq, decide_eq_false_iff_not] at hk
      obtain ⟨x, y, r, rfl, hs⟩ := tLL_e hs
      exact x_lmul hd (hP _ _ _ _ _ _ hs)
    case land =>
      dsimp only at hs
      simp only [chkI, Bool.and_eq_true, Bool.or_eq_true, Bool.not_eq_true', decide_eq_true_eq, decide_eq_false_iff_not] at hk
      obtain ⟨x, y, r, rfl, hs⟩ := tLL_e hs
      exact x_land hd (hP _ _ _ _ _ _ hs)
    case lor =>
      dsimp only at hs
      simp only [chkI, Bool.and_eq_true, Bool.or_eq_true, Bool.not_eq_true', decide_eq_true_eq, decide_eq_false_iff_not] at hk
      obtain ⟨x, y, r, rfl, hs⟩ := tLL_e hs
      exact x_lor hd (hP _ _ _ _ _ _ hs)
    case lcmp =>
      dsimp only at hs
      simp only [chkI, Bool.and_eq_true, Bool.or_eq_true, Bool.not_eq_true', decide_eq_true_eq, decide_eq_false_iff_not] at hk
      obtain ⟨x, y, r, rfl, hs⟩ := tLL_e hs
      exact x_lcmp hd (hP _ _ _ _ _ _ hs)
    case ldiv =>
      dsimp only at hs
      simp only [chkI, Bool.and_eq_true, Bool.or_eq_true, Bool.not_eq_true', decide_eq_true_eq, decide_eq_false_iff_not] at hk
      obtain ⟨x, y, r, rfl, hs⟩ := tLL_e hs
      exact x_ldiv hd hs.1 (hP _ _ _ _ _ _ hs.2)
    case lrem =>
      dsimp only at hs
      simp only [chkI, Bool.and_eq_true, Bool.or_eq_true, Bool.not_eq_true', decide_eq_true_eq, decide_eq_false_iff_not] at hk
      obtain ⟨x, y, r, rfl, hs⟩ := tLL_e hs
      exact x_lrem hd hs.1 (hP _ _ _ _ _ _ hs.2)
    case lneg =>
      dsimp only at hs
      simp only [chkI, Bool.and_eq_true, Bool.or_eq_true, Bool.not_eq_true', decide_eq_true_eq, decide_eq_false_iff_not] at hk
      obtain ⟨x, r, rfl, hs⟩ := tL_e hs
      exact x_lneg hd (hP _ _ _ _ _ _ hs)
    case lshl =>
      dsimp only at hs
      simp only [chkI, Bool.and_eq_true, Bool.or_eq_true, Bool.not_eq_true', decide_eq_true_eq, decide_eq_false_iff_not] at hk
      obtain ⟨y, r, rfl, hs1⟩ := tI_e hs
      obtain ⟨x, r, rfl, hs2⟩ := tL_e hs1
      exact x_lshl hd (hP _ _ _ _ _ _ hs2)
    case i2l =>
      dsimp only at hs
      simp only [chkI, Bool.and_eq_true, Bool.or_eq_true, Bool.not_eq_true', decide_eq_true_eq, decide_eq_false_iff_not] at hk
      obtain ⟨x, r, rfl, hs⟩ := tI_e hs
      exact x_i2l hd (hP _ _ _ _ _ _ hs)
    case i2b =>
      dsimp only at hs
      simp only [chkI, Bool.and_eq_true, Bool.or_eq_true, Bool.not_eq_true', decide_eq_true_eq, decide_eq_false_iff_not] at hk
      obtain ⟨x, r, rfl, hs⟩ := tI_e hs
      exact x_i2b hd (hP _ _ _ _ _ _ hs)
    case i2s =>
      dsimp only at hs
      simp only [chkI, Bool.and_eq_true, Bool.or_eq_true, Bool.not_eq_true', decide_eq_true_eq, decide_eq_false_iff_not] at hk
      obtain ⟨x, r, rfl, hs⟩ := tI_e hs
      exact x_i2s hd (hP _ _ _ _ _ _ hs)
    case dup =>
      dsimp only at hs
      simp only [chkI, Bool.and_eq_true, Bool.or_eq_true, Bool.not_eq_true', decide_eq_true_eq, decide_eq_false_iff_not] at hk
      obtain ⟨x, r, rfl, hs⟩ := tR_e hs
      exact x_dup hd rfl (hP _ _ _ _ _ _ hs)
    case ifCond c off =>
      dsimp only at hs
      simp only [chkI, Bool.and_eq_true, Bool.or_eq_true, Bool.not_eq_true', decide_eq_true_eq, decide_eq_false_iff_not] at hk
      obtain ⟨x, r, rfl, hs⟩ := tI_e hs
      simp only [okTo, decide_eq_true_eq] at hk
      cases c
      · exact x_if_eq hd hk (fun g => hP _ _ _ _ _ _ (hs.1 g)) (fun g => hP _ _ _ _ _ _ (hs.2 g))
      · exact x_if_ne hd hk (fun g => hP _ _ _ _ _ _ (hs.1 g)) (fun g => hP _ _ _ _ _ _ (hs.2 g))
      · exact x_if_lt hd hk (fun g => hP _ _ _ _ _ _ (hs.1 g)) (fun g => hP _ _ _ _ _ _ (hs.2 g))
      · exact x_if_ge hd hk (fun g => hP _ _ _ _ _ _ (hs.1 g)) (fun g => hP _ _ _ _ _ _ (hs.2 g))
      · exact x_if_gt hd hk (fun g => hP _ _ _ _ _ _ (hs.1 g)) (fun g => hP _ _ _ _ _ _ (hs.2 g))
      · exact x_if_le hd hk (fun g => hP _ _ _ _ _ _ (hs.1 g)) (fun g => hP _ _ _ _ _ _ (hs.2 g))
    case if_icmp c off =>
      dsimp only at hs
      simp only [chkI, Bool.and_eq_true, Bool.or_eq_true, Bool.not_eq_true', decide_eq_true_eq, decide_eq_false_iff_not] at hk
      obtain ⟨x, y, r, rfl, hs⟩ := tII_e hs
      simp only [okTo, decide_eq_true_eq] at hk
      cases c
      · exact x_icmp_eq hd hk (fun g => hP _ _ _ _ _ _ (hs.1 g)) (fun g => hP _ _ _ _ _ _ (hs.2 g))
      · exact x_icmp_ne hd hk (fun g => hP _ _ _ _ _ _ (hs.1 g)) (fun g => hP _ _ _ _ _ _ (hs.2 g))
      · exact x_icmp_lt hd hk (fun g => hP _ _ _ _ _ _ (hs.1 g)) (fun g => hP _ _ _ _ _ _ (hs.2 g))
      · exact x_icmp_ge hd hk (fun g => hP _ _ _ _ _ _ (hs.1 g)) (fun g => hP _ _ _ _ _ _ (hs.2 g))
      · exact x_icmp_gt hd hk (fun g => hP _ _ _ _ _ _ (hs.1 g)) (fun g => hP _ _ _ _ _ _ (hs.2 g))
      · exact x_icmp_le hd hk (fun g => hP _ _ _ _ _ _ (hs.1 g)) (fun g => hP _ _ _ _ _ _ (hs.2 g))
    case goto off =>
      dsimp only at hs
      simp only [chkI, Bool.and_eq_true, Bool.or_eq_true, Bool.not_eq_true', decide_eq_true_eq, decide_eq_false_iff_not] at hk
      simp only [okTo, decide_eq_true_eq] at hk
      exact x_goto hd hk (hP _ _ _ _ _ _ hs)
    case ifnull off =>
      dsimp only at hs
      simp only [chkI, Bool.and_eq_true, Bool.or_eq_true, Bool.not_eq_true', decide_eq_true_eq, decide_eq_false_iff_not] at hk
      simp only [okTo, decide_eq_true_eq] at hk
      split at hs
      · exact x_ifnull hd (hP _ _ _ _ _ _ hs)
      · exact x_ifnullN hd hk (hP _ _ _ _ _ _ hs)
      · exact hs.elim
    case ifnonnull off =>
      dsimp only at hs
      simp only [chkI, Bool.and_eq_true, Bool.or_eq_true, Bool.not_eq_true', decide_eq_true_eq, decide_eq_false_iff_not] at hk
      simp only [okTo, decide_eq_true_eq] at hk
      split at hs
      · exact x_ifnonnull hd hk (hP _ _ _ _ _ _ hs)
      · exact x_ifnonnullN hd (hP _ _ _ _ _ _ hs)
      · exact hs.elim
    case getfield idx =>
      dsimp only at hs
      simp only [chkI, Bool.and_eq_true, Bool.or_eq_true, Bool.not_eq_true', decide_eq_true_eq, decide_eq_false_iff_not] at hk
      obtain ⟨x, r, rfl, hs⟩ := tR_e hs
      exact x_getZ hd hk.1 hk.2 hs.1 (fun y g => hP _ _ _ _ _ _ g) hs.2
    case putfield idx =>
      dsimp only at hs
      simp only [chkI, Bool.and_eq_true, Bool.or_eq_true, Bool.not_eq_true', decide_eq_true_eq, decide_eq_false_iff_not] at hk
      refine x_putZ hd hk.1.1 hk.1.2 (fun g => ?_) (fun r h1 g => hP _ _ _ _ _ _ g) hs
      rcases hk.2 with q | q
      · rw [g] at q; cases q
      · exact q
    case iaload =>
      dsimp only at hs
      simp only [chkI, Bool.and_eq_true, Bool.or_eq_true, Bool.not_eq_true', decide_eq_true_eq, decide_eq_false_iff_not] at hk
      obtain ⟨i, r, rfl, hs1⟩ := tI_e hs
      obtain ⟨x, r, rfl, hs2⟩ := tR_e hs1
      exact x_iald hd hs2.1 hs2.2.1 (hP _ _ _ _ _ _ hs2.2.2)
    case laload =>
      dsimp only at hs
      simp only [chkI, Bool.and_eq_true, Bool.or_eq_true, Bool.not_eq_true', decide_eq_true_eq, decide_eq_false_iff_not] at hk
      obtain ⟨i, r, rfl, hs1⟩ := tI_e hs
      obtain ⟨x, r, rfl, hs2⟩ := tR_e hs1
      exact x_lald hd hs2.1 hs2.2.1 (hP _ _ _ _ _ _ hs2.2.2)
    case baload =>
      dsimp only at hs
      simp only [chkI, Bool.and_eq_true, Bool.or_eq_true, Bool.not_eq_true', decide_eq_true_eq, decide_eq_false_iff_not] at hk
      obtain ⟨i, r, rfl, hs1⟩ := tI_e hs
      obtain ⟨x, r, rfl, hs2⟩ := tR_e hs1
      exact x_zald hd hs2.1 hs2.2.1 (hP _ _ _ _ _ _ hs2.2.2)
    case aaload =>
      dsimp only at hs
      simp only [chkI, Bool.and_eq_true, Bool.or_eq_true, Bool.not_eq_true', decide_eq_true_eq, decide_eq_false_iff_not] at hk
      obtain ⟨i, r, rfl, hs1⟩ := tI_e hs
      obtain ⟨x, r, rfl, hs2⟩ := tR_e hs1
      obtain ⟨g1, g2, g3, o, g4, g5⟩ := hs2
      exact x_aald hd rfl g1 g2 g3 g4 (hP _ _ _ _ _ _ g5)
    case iastore =>
      dsimp only at hs
      simp only [chkI, Bool.and_eq_true, Bool.or_eq_true, Bool.not_eq_true', decide_eq_true_eq, decide_eq_false_iff_not] at hk
      obtain ⟨y, r, rfl, hs1⟩ := tI_e hs
      obtain ⟨i, r, rfl, hs2⟩ := tI_e hs1
      obtain ⟨x, r, rfl, hs3⟩ := tR_e hs2
      exact x_iast hd hs3.1 hs3.2.1 (hP _ _ _ _ _ _ hs3.2.2)
    case lastore =>
      dsimp only at hs
      simp only [chkI, Bool.and_eq_true, Bool.or_eq_true, Bool.not_eq_true', decide_eq_true_eq, decide_eq_false_iff_not] at hk
      obtain ⟨y, r, rfl, hs1⟩ := tL_e hs
      obtain ⟨i, r, rfl, hs2⟩ := tI_e hs1
      obtain ⟨x, r, rfl, hs3⟩ := tR_e hs2
      exact x_last hd hs3.1 hs3.2.1 (hP _ _ _ _ _ _ hs3.2.2)
    case bastore =>
      dsimp only at hs
      simp only [chkI, Bool.and_eq_true, Bool.or_eq_true, Bool.not_eq_true', decide_eq_true_eq, decide_eq_false_iff_not] at hk
      obtain ⟨y, r, rfl, hs1⟩ := tI_e hs
      obtain ⟨i, r, rfl, hs2⟩ := tI_e hs1
      obtain ⟨x, r, rfl, hs3⟩ := tR_e hs2
      exact x_zast hd hs3.1 hs3.2.1 hs3.2.2.1 (hP _ _ _ _ _ _ hs3.2.2.2)
    case aastore =>
      dsimp only at hs
      simp only [chkI, Bool.and_eq_true, Bool.or_eq_true, Bool.not_eq_true', decide_eq_true_eq, decide_eq_false_iff_not] at hk
      obtain ⟨y, r, rfl, hs1⟩ := tR_e hs
      obtain ⟨i, r, rfl, hs2⟩ := tI_e hs1
      obtain ⟨x, r, rfl, hs3⟩ := tR_e hs2
      exact x_aast hd hs3.1 hs3.2.1 (hP _ _ _ _ _ _ hs3.2.2)
    case arraylength =>
      dsimp only at hs
      simp only [chkI, Bool.and_eq_true, Bool.or_eq_true, Bool.not_eq_true', decide_eq_true_eq, decide_eq_false_iff_not] at hk
      obtain ⟨x, r, rfl, hs⟩ := tR_e hs
      exact x_alen hd hs.1 (hP _ _ _ _ _ _ hs.2)
    case new idx =>
      dsimp only at hs
      simp only [chkI, Bool.and_eq_true, Bool.or_eq_true, Bool.not_eq_true', decide_eq_true_eq, decide_eq_false_iff_not] at hk
      exact x_new hd hk hs.1 hs.2.1 (hP _ _ _ _ _ _ hs.2.2)
    case newarray ty =>
      dsimp only at hs
      obtain ⟨n, r, rfl, hs⟩ := tI_e hs
      cases ty <;> simp only [chkI, decide_eq_true_eq] at hk <;> first | cases hk | skip
      all_goals exact x_newa hd (by simp_all) hs.1 hs.2.1 hs.2.2.1 hs.2.2.2.1 (hP _ _ _ _ _ _ hs.2.2.2.2)
    case anewarray idx =>
      dsimp only at hs
      simp only [chkI, Bool.and_eq_true, Bool.or_eq_true, Bool.not_eq_true', decide_eq_true_eq, decide_eq_false_iff_not] at hk
      obtain ⟨n, r, rfl, hs⟩ := tI_e hs
      exact x_anew hd hk hs.1 hs.2.1 hs.2.2.1 hs.2.2.2.1 (hP _ _ _ _ _ _ hs.2.2.2.2)
    case invokestatic idx =>
      dsimp only at hs
      simp only [chkI, okCall, Bool.and_eq_true, Bool.or_eq_true, Bool.not_eq_true', decide_eq_true_eq, decide_eq_false_iff_not] at hk
      rcases hk with ⟨⟨⟨k1, k2⟩, k3⟩, k4⟩ | ⟨⟨k1, k2⟩, ⟨k3, k4⟩, k5⟩
      · subst k1
        simp only [show (5 : Int).toNat = 5 from rfl] at hs
        have ha4 := (X_fact k2).1
        obtain rfl | rfl | rfl | rfl : a = 0 ∨ a = 1 ∨ a = 2 ∨ a = 3 := by omega
        · obtain ⟨x, r, rfl, hs1⟩ := tL_e hs
          exact x_abs hd k2 k3 k4 (okr_e hs1.1) (hP _ _ _ _ _ _ hs1.2)
        · obtain ⟨x, y, r, rfl, hs1⟩ := tII_e hs
          exact x_max hd k2 k3 k4 (okr_e hs1.1) (hP _ _ _ _ _ _ hs1.2)
        · obtain ⟨x, y, r, rfl, hs1⟩ := tLL_e hs
          exact x_maxL hd k2 k3 k4 (okr_e hs1.1) (hP _ _ _ _ _ _ hs1.2)
        · obtain ⟨x, y, r, rfl, hs1⟩ := tII_e hs
          exact x_min hd k2 k3 k4 (okr_e hs1.1) (hP _ _ _ _ _ _ hs1.2)
      · have hz5 : z.toNat = 0 ∨ z.toNat = 1 := by rcases k2 with ⟨_, rfl⟩ | ⟨_, rfl⟩ <;> simp
        split at hs
        · rename_i e5; omega
        · split at hs
          · rename_i as r hpop
            obtain ⟨b1, e1, e2, e3⟩ := popn_e _ _ _ _ _ hpop
            simp only [List.append_nil] at e1
            subst e1; subst e2
            obtain ⟨g1, g2, g3, g4, g5⟩ := hs
            rcases k2 with ⟨km, -⟩ | ⟨km, -⟩
            · exact x_invS hd km (Or.inl rfl) (e3.trans k3) k4 k5 (okr_e g1) (Nat.le_of_ble_eq_true g2) g3 g4 g5 (fun r h1 g => hP _ _ _ _ _ _ g)
            · exact x_invS hd km (Or.inr rfl) (e3.trans k3) k4 k5 (okr_e g1) (Nat.le_of_ble_eq_true g2) g3 g4 g5 (fun r h1 g => hP _ _ _ _ _ _ g)
          · exact hs.elim
    case invokevirtual idx =>
      dsimp only at hs
      simp only [chkI, okCall, Bool.and_eq_true, Bool.or_eq_true, Bool.not_eq_true', decide_eq_true_eq, decide_eq_false_iff_not] at hk
      obtain ⟨k2, ⟨k3, k4⟩, k5⟩ := hk
      split at hs
      · rename_i as x r hpop
        obtain ⟨b1, e1, e2, e3⟩ := popn_e _ _ _ _ _ hpop
        simp only [List.append_nil] at e1
        subst e1; subst e2
        obtain ⟨g0, g1, g2, g3, g4, g5⟩ := hs
        exact x_invV hd k2 g0 (own10 (M_fact k2).1) (e3.trans k3) k4 k5 (okr_e g1) (Nat.le_of_ble_eq_true g2) g3 g4 g5 (fun r h1 g => hP _ _ _ _ _ _ g)
      · exact hs.elim
    case invokespecial idx =>
      dsimp only at hs
      simp only [chkI, okCall, Bool.and_eq_true, Bool.or_eq_true, Bool.not_eq_true', decide_eq_true_eq, decide_eq_false_iff_not] at hk
      rcases hk with ⟨⟨⟨k1, k2⟩, k3⟩, k4⟩ | ⟨⟨k1, k2⟩, ⟨k3, k4⟩, k5⟩
      · subst k1
        simp only [show Nat.beq 999 999 = true from rfl] at hs
        obtain ⟨x, r, rfl, hs⟩ := tR_e hs
        have hob := obj_ok
        simp only [Bool.and_eq_true] at hob
        exact x_objInit hd (O_fact k2) (okP_in hob.1.1.1.1) (okP_in hob.1.1.1.2) k3 (by omega) (okr_e hs.1) (hP _ _ _ _ _ _ hs.2)
      · have hb9 : Nat.beq a 999 = false := by
          cases hb : Nat.beq a 999 with
          | false => rfl
          | true => exact absurd (Nat.eq_of_beq_eq_true hb) k1
        rw [hb9] at hs
        simp only at hs
        split at hs
        · rename_i as x r hpop
          obtain ⟨b1, e1, e2, e3⟩ := popn_e _ _ _ _ _ hpop
          simp only [List.append_nil] at e1
          subst e1; subst e2
          obtain ⟨g1, g2, g3, g4, g5⟩ := hs
          rcases k2 with ⟨km, -⟩ | ⟨km, -⟩
          · exact x_invI hd km (Or.inl rfl) (ini_none km (Or.inl rfl)) (e3.trans k3) k4 k5 (okr_e g1) (Nat.le_of_ble_eq_true g2) g3 g4 g5 (fun r h1 g => hP _ _ _ _ _ _ g)
          · exact x_invI hd km (Or.inr rfl) (ini_none km (Or.inr rfl)) (e3.trans k3) k4 k5 (okr_e g1) (Nat.le_of_ble_eq_true g2) g3 g4 g5 (fun r h1 g => hP _ _ _ _ _ _ g)
        · exact hs.elim
    case ireturn =>
      dsimp only at hs
      simp only [chkI, Bool.and_eq_true, Bool.or_eq_true, Bool.not_eq_true', decide_eq_true_eq, decide_eq_false_iff_not] at hk
      rcases hk with ⟨rfl, hr⟩ | ⟨rfl, hr⟩
      · simp only at hs
        split at hs
        · exact x_ret_i hd hr hs
        · exact hs.elim
      · simp only at hs
        split at hs
        · exact x_ret_z hd hr hs.1 hs.2
        · exact hs.elim
    case lreturn =>
      dsimp only at hs
      simp only [chkI, Bool.and_eq_true, Bool.or_eq_true, Bool.not_eq_true', decide_eq_true_eq, decide_eq_false_iff_not] at hk
      split at hs
      · exact x_ret_l hd hk hs
      · exact hs.elim
    case return_ =>
      dsimp only at hs
      simp only [chkI, Bool.and_eq_true, Bool.or_eq_true, Bool.not_eq_true', decide_eq_true_eq, decide_eq_false_iff_not] at hk
      split at hs
      · exact x_ret_v hd hk hs
      · exact hs.elim
    case areturn =>
      dsimp only at hs
      simp only [chkI] at hk
      split at hs
      · rename_i x
        exact x_ret_a (r := some x) hd hk hs
      · exact x_ret_a (r := none) hd hk hs
      · exact hs.elim
    case tableswitch d lo hi offs =>
      dsimp only at hs
      simp only [chkI, Bool.and_eq_true, Bool.or_eq_true, Bool.not_eq_true', decide_eq_true_eq, decide_eq_false_iff_not] at hk
      obtain ⟨x, r, rfl, hs⟩ := tI_e hs
      obtain ⟨⟨⟨⟨k1, k2⟩, k3⟩, k4⟩, k5⟩ := hk
      exact x_tsw hd k1 (fun o ho => by simpa using List.all_eq_true.mp k2 o ho) k3 k4 k5 (fun t g => hP _ _ _ _ _ _ g) hs
    case lookupswitch d ps =>
      dsimp only at hs
      simp only [chkI, Bool.and_eq_true, Bool.or_eq_true, Bool.not_eq_true', decide_eq_true_eq, decide_eq_false_iff_not] at hk
      obtain ⟨x, r, rfl, hs⟩ := tI_e hs
      obtain ⟨⟨k1, k2⟩, k3⟩ := hk
      exact x_lsw hd k1 (fun o ho => by have h9 := List.all_eq_true.mp k2 o ho; simp only [Bool.and_eq_true, decide_eq_true_eq] at h9; exact ⟨h9.1.1, h9.1.2, h9.2⟩) k3 (fun t g => hP _ _ _ _ _ _ g) hs
    all_goals exact hs.elim
noncomputable def SN : Nat → (k : Nat) → (Q : Option Value → HP → Prop) → Nat → Nat → Nat → List Value → List Value → HP → Prop
  | 0, k, Q => X k Q
  | n + 1, k, Q => XStep k Q (SN n k Q)
theorem X.go : ∀ (n : Nat) {k : Nat} {Q : Option Value → HP → Prop} {bc bs pc : Nat} {L st : List Value} {h : HP}, SN n k Q bc bs pc L st h → X k Q bc bs pc L st h
  | 0, _, _, _, _, _, _, _, _, hs => hs
  | n + 1, _, _, _, _, _, _, _, _, hs => sim1 (fun _ _ _ _ _ _ g => X.go n g) hs
