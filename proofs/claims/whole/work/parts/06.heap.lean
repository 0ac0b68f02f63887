/-! The rows that read and write cells. -/
theorem cl_fact {c : Nat} (hc : c < 10) : vwCl[c]? = some (clQ c) ∧ (∀ w ∈ u_ws (clQ c).1 (clQ c).2.1 (clQ c).2.2, w ∈ TB) ∧ (∀ j, j < (clQ c).2.2 → parseFieldDescriptor ((clQ c).2.1 j).2.2.1 = some (fty c j)) ∧ (∀ a, a < (clQ c).2.2 → ∀ b, b < (clQ c).2.2 → a ≠ b → ((clQ c).2.1 a).2.1 ≠ ((clQ c).2.1 b).2.1) := by
  have h0 := List.all_eq_true.mp cl_ok c (List.mem_range.mpr hc)
  simp only [clO, nmO, Bool.and_eq_true, List.all_eq_true, List.mem_range, decide_eq_true_eq, Bool.or_eq_true] at h0
  refine ⟨?_, fun w hw => ?_, fun j hj => h0.1.2 j hj, fun a ha b hb hab => ?_⟩
  · have : c = 0 ∨ c = 1 ∨ c = 2 ∨ c = 3 ∨ c = 4 ∨ c = 5 ∨ c = 6 ∨ c = 7 ∨ c = 8 ∨ c = 9 := by omega
    rcases this with rfl | rfl | rfl | rfl | rfl | rfl | rfl | rfl | rfl | rfl <;> rfl
  · obtain ⟨j, hj, rfl⟩ := List.mem_map.mp hw
    exact okP_in (h0.1.1 j (List.mem_range.mp hj))
  · rcases h0.2 a ha b hb with q | q
    · exact absurd q hab
    · exact q
theorem F_fact {o idx c j : Nat} (h : (o, idx, c, j) ∈ FTab) : c < 10 ∧ j < (clQ c).2.2 ∧ Cond.fieldLink (cn o) idx ((clQ c).2.1 j).1 ((clQ c).2.1 j).2.1 ((clQ c).2.1 j).2.2.1 ∈ TB := by
  have hl : FTab.length = FPos.length := by decide +kernel
  obtain ⟨i, hi⟩ := List.getElem?_of_mem h
  have hi2 : i < FPos.length := by rw [← hl]; exact (List.getElem?_eq_some_iff.mp hi).1
  have hz : ((o, idx, c, j), FPos[i]) ∈ FTab.zip FPos := by
    apply List.mem_of_getElem? (i := i)
    rw [List.getElem?_zip_eq_some]
    exact ⟨hi, List.getElem?_eq_getElem hi2⟩
  have h0 := List.all_eq_true.mp FTab_ok _ hz
  simp only [Bool.and_eq_true, decide_eq_true_eq] at h0
  exact ⟨h0.1.1, h0.1.2, okP_in h0.2⟩
theorem fls_get {B : Nat} {h : HP} {a c n j : Nat} (hj : j < n) : (fls B h a c n)[j]? = some (tr B (fvA (fty c j) (hR h a j) (hI h a j) (hJ h a j))) := by
  simp [fls, hj]
theorem fls_len {B : Nat} {h : HP} {a c n : Nat} : (fls B h a c n).length = n := by simp [fls]
theorem fls_set {B : Nat} {h h' : HP} {a c n j : Nat} {v : Value} (hj : j < n) (h1 : ∀ i, i ≠ j → hR h' a i = hR h a i ∧ hI h' a i = hI h a i ∧ hJ h' a i = hJ h a i) (h2 : fvA (fty c j) (hR h' a j) (hI h' a j) (hJ h' a j) = v) : (fls B h a c n).set j (tr B v) = fls B h' a c n := by
  apply List.ext_getElem?
  intro i
  by_cases hi : i < n
  · by_cases hij : i = j
    · subst hij
      rw [List.getElem?_set_self (by rw [fls_len]; exact hi), fls_get hi, h2]
    · rw [List.getElem?_set_ne (Ne.symm hij), fls_get hi, fls_get hi, (h1 i hij).1, (h1 i hij).2.1, (h1 i hij).2.2]
  · rw [List.getElem?_eq_none (by rw [List.length_set, fls_len]; omega), List.getElem?_eq_none (by rw [fls_len]; omega)]
theorem rep_set {D : va_G} {cA : Nat → ClassId} {B : Nat} {h h' : HP} {H H' : Heap} {a : Nat} (hr : Rep D cA B h H) (ha : a < h.1.length) (hz : H'.size = H.size) (oq : ∀ q, q ≠ B + a → H'[q]? = H[q]?) (h1 : h'.1 = h.1) (h2 : ∀ b, b ≠ a → h'.2.1 b = h.2.1 b ∧ h'.2.2.1 b = h.2.2.1 b ∧ h'.2.2.2 b = h.2.2.2 b) (he : va_at D vwCl (B + a, cE cA B h' a) H') : Rep D cA B h' H' := by
  refine ⟨by rw [hz, hr.1, h1], ?_⟩
  have h3 := hr.2.set (e := cE cA B h' a) wsH_D (wsH_get ha) he oq
  rw [wsH_set h1 (fun b hb => cE_same (by rw [h1]) (h2 b hb).1 (h2 b hb).2.1 (h2 b hb).2.2) rfl] at h3
  exact h3
theorem rep_push {D : va_G} {cA : Nat → ClassId} {B : Nat} {h : HP} {H H' : Heap} {c z : Nat} (hr : Rep D cA B h H) (hz : H'.size = H.size + 1) (oq : ∀ q, q < H.size → H'[q]? = H[q]?) (he : va_at D vwCl (B + h.1.length, cE cA B (nw h c z) h.1.length) H') : Rep D cA B (nw h c z) H' := by
  have hl : (nw h c z).1 = h.1 ++ [(c, z)] := rfl
  refine ⟨by rw [hz, hr.1, hl, List.length_append, List.length_singleton, Nat.add_assoc], ?_⟩
  have h2 : ∀ b, b < h.1.length → cE cA B (nw h c z) b = cE cA B h b := fun b hb => cE_same (by rw [hl]; simp [List.getD, List.getElem?_append_left hb]) (up1_ne (by omega)) (up1_ne (by omega)) (up1_ne (by omega))
  rw [← wsH_push hl h2 rfl]
  refine va_P.app (hr.2.kept fun i q hq => oq q.1 (hr.2 i q hq).lt) ?_
  intro i q hq
  have hi : i < 1 := (List.getElem?_eq_some_iff.mp hq).1
  rw [show i = 0 by omega] at hq
  cases hq
  exact he
theorem S_push {A : Nat → Prop} {H0 H H' : Heap} {locs : List Loc} (hS : va_S A H0 H locs) (hz : H'.size = H.size + 1) (oq : ∀ q, q < H.size → H'[q]? = H[q]?) : va_S A H0 H' locs := ⟨Nat.le_trans hS.1 (by omega), fun q h1 h2 => (oq q (Nat.lt_of_lt_of_le h1 hS.1)).trans (hS.2.1 q h1 h2), hS.2.2⟩
theorem kd_nw {h : HP} {c z : Nat} : kd (nw h c z) h.1.length = c := by simp [kd, nw, List.getD]
theorem zl_nw {h : HP} {c z : Nat} : zl (nw h c z) h.1.length = z := by simp [zl, nw, List.getD]
theorem C_fact {o idx c : Nat} (h : (o, idx, c) ∈ CTab) : c < 10 ∧ Cond.classLink (cn o) idx (clQ c).1 ∈ TB ∧ Cond.instantiable (clQ c).1 (clQ c).2.2 ∈ TB ∧ Cond.initialized (clQ c).1 ∈ TB := by
  have hl : CTab.length = CPos.length := by decide +kernel
  obtain ⟨i, hi⟩ := List.getElem?_of_mem h
  have hi2 : i < CPos.length := by rw [← hl]; exact (List.getElem?_eq_some_iff.mp hi).1
  have hz : ((o, idx, c), CPos[i]) ∈ CTab.zip CPos := by
    apply List.mem_of_getElem? (i := i)
    rw [List.getElem?_zip_eq_some]
    exact ⟨hi, List.getElem?_eq_getElem hi2⟩
  have h0 := List.all_eq_true.mp CTab_ok _ hz
  simp only [Bool.and_eq_true, decide_eq_true_eq] at h0
  exact ⟨h0.1.1.1, okP_in h0.1.1.2, okP_in h0.1.2, okP_in h0.2⟩
theorem A_fact {o idx kn c : Nat} (h : (o, idx, kn, c) ∈ ATab) : 13 ≤ kn ∧ kn < 17 ∧ c < 10 ∧ Cond.classLink (cn o) idx (clQ c).1 ∈ TB ∧ Cond.arrayOver (.object (clQ c).1) ∈ lw_tbl := by
  have hl : ATab.length = APos.length := by decide +kernel
  obtain ⟨i, hi⟩ := List.getElem?_of_mem h
  have hi2 : i < APos.length := by rw [← hl]; exact (List.getElem?_eq_some_iff.mp hi).1
  have hz : ((o, idx, kn, c), APos[i]) ∈ ATab.zip APos := by
    apply List.mem_of_getElem? (i := i)
    rw [List.getElem?_zip_eq_some]
    exact ⟨hi, List.getElem?_eq_getElem hi2⟩
  have h0 := List.all_eq_true.mp ATab_ok _ hz
  simp only [Bool.and_eq_true, decide_eq_true_eq] at h0
  exact ⟨h0.1.1.1.1, h0.1.1.1.2, h0.1.1.2, okP_in h0.1.2, List.mem_of_getElem? h0.2⟩
theorem A_kind {o idx kn c : Nat} (h : (o, idx, kn, c) ∈ ATab) (cA : Nat → ClassId) : ∃ t0 : Nat, (tysA cA)[t0]? = some (cA kn, FieldType.object (clQ c).1) := by
  have h2 : (ATab.all fun e => decide ((e.2.2.1 = 13 ∧ (clQ e.2.2.2).1 = "ColdHouse$Image") ∨ (e.2.2.1 = 14 ∧ (clQ e.2.2.2).1 = "ColdHouse$Sheet") ∨ (e.2.2.1 = 15 ∧ (clQ e.2.2.2).1 = "ColdHouse$State") ∨ (e.2.2.1 = 16 ∧ (clQ e.2.2.2).1 = "ColdHouse$Table"))) = true := by decide +kernel
  have h0 := List.all_eq_true.mp h2 _ h
  simp only [decide_eq_true_eq] at h0
  rcases h0 with ⟨e1, e2⟩ | ⟨e1, e2⟩ | ⟨e1, e2⟩ | ⟨e1, e2⟩
  · exact ⟨3, by rw [e1, e2]; rfl⟩
  · exact ⟨4, by rw [e1, e2]; rfl⟩
  · exact ⟨5, by rw [e1, e2]; rfl⟩
  · exact ⟨6, by rw [e1, e2]; rfl⟩
section XH
variable {k bc bs pc : Nat} {Q : Option Value → HP → Prop} {L rest : List Value} {h : HP}
theorem x_get {idx c0 j a : Nat} (hd : decode (cM k) pc = .ok (.getfield idx, 3)) (hF : (owM k, idx, c0, j) ∈ FTab) (hk : kd h a = c0) (nx : X k Q bc bs (pc + 3) L (fvA (fty c0 j) (hR h a j) (hI h a j) (hJ h a j) :: rest) h) : X k Q bc bs pc L (.ref a :: rest) h := by
  intro l D cA B p e R s m args below meth c H locs cells slots ls hC hc hs hB hRep hS hL
  obtain ⟨x1, x2, x3, x4, x5, x6, x7, x8, x9, x10, x11, x12⟩ := id hC
  obtain ⟨f1, f2, f3⟩ := F_fact hF
  obtain ⟨g1, g2, g3, g4⟩ := cl_fact f1
  exact va_get (D := D) (ci := c0) (C := (clQ c0).1) (T := (clQ c0).2.1) (N := (clQ c0).2.2) x1 x2 x6 g2 x5 x8 hRep.2 a (by rw [wsH_get (kd_lt hk (by omega)), cE_obj hk f1]; rfl) g1 j f2 (x6 _ f3) (fun _ h9 => h9) (fls_get f2) hd (nx l D cA B p e R s m args below meth c H locs cells slots ls hC hc hs hB hRep hS hL)
theorem x_put {idx c0 j a : Nat} {v : Value} {h' : HP} (hd : decode (cM k) pc = .ok (.putfield idx, 3)) (hF : (owM k, idx, c0, j) ∈ FTab) (hfin : (((clQ c0).2.1 j).2.2.2 = true → (yM k).name = "<init>" ∧ ((clQ c0).2.1 j).1 = cn (owM k))) (hk : kd h a = c0)
    (h1 : h'.1 = h.1) (h2 : ∀ b, b ≠ a → h'.2.1 b = h.2.1 b ∧ h'.2.2.1 b = h.2.2.1 b ∧ h'.2.2.2 b = h.2.2.2 b) (h3 : ∀ i, i ≠ j → hR h' a i = hR h a i ∧ hI h' a i = hI h a i ∧ hJ h' a i = hJ h a i) (h4 : fvA (fty c0 j) (hR h' a j) (hI h' a j) (hJ h' a j) = v)
    (hn : ∀ B, narrow (fty c0 j) (tr B v) = tr B v) (hfit : ∀ B, fits (fty c0 j) (tr B v) = true) (nx : X k Q bc bs (pc + 3) L rest h') : X k Q bc bs pc L (v :: .ref a :: rest) h := by
  intro l D cA B p e R s m args below meth c H locs cells slots ls hC hc hs hB hRep hS hL
  obtain ⟨x1, x2, x3, x4, x5, x6, x7, x8, x9, x10, x11, x12⟩ := id hC
  obtain ⟨f1, f2, f3⟩ := F_fact hF
  obtain ⟨g1, g2, g3, g4⟩ := cl_fact f1
  have hk' : kd h' a = c0 := by rw [← hk]; unfold kd; rw [h1]
  have he : (wsH cA B h)[a]? = some (B + a, .inr (c0, fls B h a c0 (nfl c0))) := by rw [wsH_get (kd_lt hk (by omega)), cE_obj hk f1]
  have hap := va_apart (D := D) (own := cn (owM k)) x6 g2 (fty c0) g3 g4 x8 g1
  obtain ⟨r, r1, cell, q1, q2, q3, q4⟩ := hRep.2 a _ he
  have hr : r = clQ c0 := Option.some.inj (r1.symm.trans g1)
  subst hr
  obtain ⟨hSl, hfc, kC, hkC, hkind⟩ := x8.1 c0 _ g1
  obtain ⟨cf, kf, fi, f, hi, hsl⟩ := hSl j f2
  have hst := (u_facts hfc hkC (u_lays x6 g2 f2) hi).1
  have hld := u_fits hfc hkC hkind (u_lays x6 g2 f2) hi (g3 j f2) (hn B) (hfit B)
  have hlay := x6 _ (g2 _ (u_in_lay f2))
  have hfin2 : hasFlag f.accessFlags Acc.final = false ∨ (m.cls = cf ∧ meth.name = "<init>") := by
    cases hff : ((clQ c0).2.1 j).2.2.2 with
    | false =>
      unfold u_lay at hlay
      rw [if_neg (by rw [hff]; decide)] at hlay
      obtain ⟨_, _, _, _, _, fd', -, -, hi', -, hfn, -⟩ := Cond.lays_spec hlay
      cases hi.symm.trans hi'
      exact Or.inl hfn
    | true =>
      unfold u_lay at hlay
      rw [if_pos hff] at hlay
      obtain ⟨hn1, hn2⟩ := hfin hff
      right
      refine ⟨?_, x9 hn1⟩
      obtain ⟨_, _, c', _, _, _, -, -, hf', -, -, -, hown2, -⟩ := Cond.laysFinal_spec hlay
      have e1 : c' = cf := by have := hi.symm.trans hf'; simp at this; exact this.1.symm
      rw [hn2] at hown2
      rw [← e1]; exact Option.some.inj (x5.symm.trans hown2)
  have hlt : f.slot < cell.slots.size := by rw [hsl]; exact k2_hasslot (q4 j f2)
  have hq : B + a < H.size := (Array.getElem?_eq_some_iff.mp q1).1
  refine W.putf (v := tr B v) x1 x2 x5 (x6 _ f3) hi hst hfin2 q1 (by rw [q3]; simp) hlt hld.1 (by rw [q2, q3]; exact hld.2) rfl rfl hd ?_
  refine nx l D cA B p e R s m args below meth c _ _ cells slots ls hC hc hs hB (rep_set hRep (kd_lt hk (by omega)) (by simp) (fun q hqa => by simp [Array.getElem?_setIfInBounds, Ne.symm hqa]) h1 h2 ?_) (hS.put (by simp) (fun q hqa => by simp [Array.getElem?_setIfInBounds, Ne.symm hqa]) (Nat.le_add_right B a)) hL
  rw [cE_obj hk' f1, ← fls_set (n := nfl c0) f2 h3 h4]
  refine ⟨_, g1, t_OB.to (V := updV (vp_V (fls B h a c0 (nfl c0))) j (tr B v)) ⟨cell.setSlot (D.2 c0 j) (tr B v), ?_, q2, q3, t_set q4 hap f2 (tr B v)⟩ (fun i _ => vp_updV_set (by rw [fls_len]; exact f2) (tr B v) i)⟩
  rw [hsl]
  simp [Array.getElem?_setIfInBounds, hq]
theorem x_iald {a : Nat} {i : Int32} (hd : decode (cM k) pc = .ok (.iaload, 1)) (hk : kd h a = 10) (hin : vp_in i (zl h a)) (nx : X k Q bc bs (pc + 1) L (.int (hI h a i.toNatClampNeg) :: rest) h) : X k Q bc bs pc L (.int i :: .ref a :: rest) h := by
  intro l D cA B p e R s m args below meth c H locs cells slots ls hC hc hs hB hRep hS hL
  exact va_iald (D := D) (cl := vwCl) (a := B + a) hC.1 hC.2.1 hC.2.2.2.2.2.2.2.1 hRep.2 a 0 (by rw [wsH_get (kd_lt hk (by omega)), cE_I hk]) rfl hin hd (nx l D cA B p e R s m args below meth c H locs cells slots ls hC hc hs hB hRep hS hL)
theorem x_lald {a : Nat} {i : Int32} (hd : decode (cM k) pc = .ok (.laload, 1)) (hk : kd h a = 11) (hin : vp_in i (zl h a)) (nx : X k Q bc bs (pc + 1) L (.long (hJ h a i.toNatClampNeg) :: rest) h) : X k Q bc bs pc L (.int i :: .ref a :: rest) h := by
  intro l D cA B p e R s m args below meth c H locs cells slots ls hC hc hs hB hRep hS hL
  exact va_lald (D := D) (cl := vwCl) (a := B + a) hC.1 hC.2.1 hC.2.2.2.2.2.2.2.1 hRep.2 a 1 (by rw [wsH_get (kd_lt hk (by omega)), cE_J hk]) rfl hin hd (nx l D cA B p e R s m args below meth c H locs cells slots ls hC hc hs hB hRep hS hL)
theorem x_zald {a : Nat} {i : Int32} (hd : decode (cM k) pc = .ok (.baload, 1)) (hk : kd h a = 12) (hin : vp_in i (zl h a)) (nx : X k Q bc bs (pc + 1) L (.int (hI h a i.toNatClampNeg) :: rest) h) : X k Q bc bs pc L (.int i :: .ref a :: rest) h := by
  intro l D cA B p e R s m args below meth c H locs cells slots ls hC hc hs hB hRep hS hL
  exact va_zald (D := D) (cl := vwCl) (a := B + a) hC.1 hC.2.1 hC.2.2.2.2.2.2.2.1 hRep.2 a 2 (by rw [wsH_get (kd_lt hk (by omega)), cE_Z hk]) rfl hin hd (nx l D cA B p e R s m args below meth c H locs cells slots ls hC hc hs hB hRep hS hL)
theorem tys_R (cA : Nat → ClassId) {kn : Nat} (h1 : 13 ≤ kn) (h2 : kn < 17) : ∃ (t0 : Nat) (C : String), (tysA cA)[t0]? = some (cA kn, FieldType.object C) := by
  have : kn = 13 ∨ kn = 14 ∨ kn = 15 ∨ kn = 16 := by omega
  rcases this with rfl | rfl | rfl | rfl
  · exact ⟨3, _, rfl⟩
  · exact ⟨4, _, rfl⟩
  · exact ⟨5, _, rfl⟩
  · exact ⟨6, _, rfl⟩
theorem x_aald {a kn : Nat} {i : Int32} {r : Option Nat} (hd : decode (cM k) pc = .ok (.aaload, 1)) (hk : kd h a = kn) (h1 : 13 ≤ kn) (h2 : kn < 17) (hin : vp_in i (zl h a)) (hr : hR h a i.toNatClampNeg = r) (nx : X k Q bc bs (pc + 1) L (va_rf r :: rest) h) : X k Q bc bs pc L (.int i :: .ref a :: rest) h := by
  intro l D cA B p e R s m args below meth c H locs cells slots ls hC hc hs hB hRep hS hL
  obtain ⟨t0, C, ht⟩ := tys_R cA h1 h2
  subst hr
  refine va_aldq (D := D) (cl := vwCl) (a := B + a) (C := C) hC.1 hC.2.1 hC.2.2.2.2.2.2.2.1 hRep.2 a t0 (by rw [wsH_get (kd_lt hk (by omega)), cE_R hk h1]) ht hin hd ?_
  rw [← tr_rf]
  exact nx l D cA B p e R s m args below meth c H locs cells slots ls hC hc hs hB hRep hS hL
theorem x_alen {a : Nat} (hd : decode (cM k) pc = .ok (.arraylength, 1)) (hk : kd h a = 10) (nx : X k Q bc bs (pc + 1) L (.int (Int32.ofNat (zl h a)) :: rest) h) : X k Q bc bs pc L (.ref a :: rest) h := by
  intro l D cA B p e R s m args below meth c H locs cells slots ls hC hc hs hB hRep hS hL
  exact va_alen (D := D) (cl := vwCl) (a := B + a) (x := (zl h a, .inl (hI h a))) hC.1 hC.2.1 hC.2.2.2.2.2.2.2.1 hRep.2 a 0 (by rw [wsH_get (kd_lt hk (by omega)), cE_I hk]) (ty := .int) rfl rfl hd (nx l D cA B p e R s m args below meth c H locs cells slots ls hC hc hs hB hRep hS hL)
theorem cell_at {D : va_G} {cA : Nat → ClassId} {B : Nat} {H : Heap} {a : Nat} {x : ClassId × vp_A} (hr : Rep D cA B h H) (ha : a < h.1.length) (he : cE cA B h a = .inl x) : H[B + a]? = some (vp_cell x.1 x.2) := by
  have h1 := hr.2 a _ (wsH_get ha)
  rw [he] at h1
  exact h1
theorem sI_ne {a j : Nat} {v : Int32} : ∀ b, b ≠ a → (sI h a j v).2.1 b = h.2.1 b ∧ (sI h a j v).2.2.1 b = h.2.2.1 b ∧ (sI h a j v).2.2.2 b = h.2.2.2 b := fun _ hb => ⟨rfl, up2_ne hb, rfl⟩
theorem sJ_ne {a j : Nat} {v : Int64} : ∀ b, b ≠ a → (sJ h a j v).2.1 b = h.2.1 b ∧ (sJ h a j v).2.2.1 b = h.2.2.1 b ∧ (sJ h a j v).2.2.2 b = h.2.2.2 b := fun _ hb => ⟨rfl, rfl, up2_ne hb⟩
theorem sR_ne {a j : Nat} {v : Option Nat} : ∀ b, b ≠ a → (sR h a j v).2.1 b = h.2.1 b ∧ (sR h a j v).2.2.1 b = h.2.2.1 b ∧ (sR h a j v).2.2.2 b = h.2.2.2 b := fun _ hb => ⟨up2_ne hb, rfl, rfl⟩
theorem x_iast {a : Nat} {i x : Int32} (hd : decode (cM k) pc = .ok (.iastore, 1)) (hk : kd h a = 10) (hin : vp_in i (zl h a)) (nx : X k Q bc bs (pc + 1) L rest (sI h a i.toNatClampNeg x)) : X k Q bc bs pc L (.int x :: .int i :: .ref a :: rest) h := by
  intro l D cA B p e R s m args below meth c H locs cells slots ls hC hc hs hB hRep hS hL
  have hc0 := cell_at hRep (kd_lt hk (by omega)) (cE_I hk)
  have hty := (hC.2.2.2.2.2.2.2.1.2 0 _ rfl).1 (zl h a) (fun j => .int (hI h a j))
  refine W.iast (cell := vp_cell (cA 10) (zl h a, .inl (hI h a))) hC.1 hC.2.1 hc0 hty (fun q => by cases q) (by show ¬ (i < 0 ∨ (arrV _ _ _).slots.size ≤ _); rw [arrV_size]; exact hin) rfl rfl hd fun H1 e1 z oq => ?_
  refine nx l D cA B p e R s m args below meth c H1 _ cells slots ls hC hc hs hB (rep_set hRep (kd_lt hk (by omega)) z oq rfl sI_ne ?_) (hS.put z oq (Nat.le_add_right B a)) hL
  rw [cE_I (show kd (sI h a i.toNatClampNeg x) a = 10 from hk)]
  show H1[B + a]? = some (vp_cell _ _)
  rw [e1, vp_cell_i, vp_cell_i, arrV_store]
  congr 2
  funext q
  simp only [updV, hI, sI, up2_eq]
  split <;> rfl
theorem x_zast {a : Nat} {i x : Int32} (hd : decode (cM k) pc = .ok (.bastore, 1)) (hk : kd h a = 12) (hin : vp_in i (zl h a)) (hv : x = 0 ∨ x = 1) (nx : X k Q bc bs (pc + 1) L rest (sI h a i.toNatClampNeg x)) : X k Q bc bs pc L (.int x :: .int i :: .ref a :: rest) h := by
  intro l D cA B p e R s m args below meth c H locs cells slots ls hC hc hs hB hRep hS hL
  have hc0 := cell_at hRep (kd_lt hk (by omega)) (cE_Z hk)
  have hty := (hC.2.2.2.2.2.2.2.1.2 2 _ rfl).1 (zl h a) (fun j => .int (hI h a j))
  refine W.zast (cell := vp_cell (cA 12) (zl h a, .inl (hI h a))) hC.1 hC.2.1 hc0 hty (fun q => by cases q) (by show ¬ (i < 0 ∨ (arrV _ _ _).slots.size ≤ _); rw [arrV_size]; exact hin) rfl rfl hd fun H1 e1 z oq => ?_
  have hnar : narrow .boolean (.int x) = .int x := by rcases hv with rfl | rfl <;> decide +kernel
  rw [hnar] at e1
  refine nx l D cA B p e R s m args below meth c H1 _ cells slots ls hC hc hs hB (rep_set hRep (kd_lt hk (by omega)) z oq rfl sI_ne ?_) (hS.put z oq (Nat.le_add_right B a)) hL
  rw [cE_Z (show kd (sI h a i.toNatClampNeg x) a = 12 from hk)]
  show H1[B + a]? = some (vp_cell _ _)
  rw [e1, vp_cell_i, vp_cell_i, arrV_store]
  congr 2
  funext q
  simp only [updV, hI, sI, up2_eq]
  split <;> rfl
theorem x_last {a : Nat} {i : Int32} {x : Int64} (hd : decode (cM k) pc = .ok (.lastore, 1)) (hk : kd h a = 11) (hin : vp_in i (zl h a)) (nx : X k Q bc bs (pc + 1) L rest (sJ h a i.toNatClampNeg x)) : X k Q bc bs pc L (.long x :: .int i :: .ref a :: rest) h := by
  intro l D cA B p e R s m args below meth c H locs cells slots ls hC hc hs hB hRep hS hL
  have hc0 := cell_at hRep (kd_lt hk (by omega)) (cE_J hk)
  have hty := (hC.2.2.2.2.2.2.2.1.2 1 _ rfl).1 (zl h a) (fun j => .long (hJ h a j))
  refine W.last (cell := vp_cell (cA 11) (zl h a, .inr (.inl (hJ h a)))) hC.1 hC.2.1 hc0 hty (fun q => by cases q) (by show ¬ (i < 0 ∨ (arrV _ _ _).slots.size ≤ _); rw [arrV_size]; exact hin) rfl rfl hd fun H1 e1 z oq => ?_
  refine nx l D cA B p e R s m args below meth c H1 _ cells slots ls hC hc hs hB (rep_set hRep (kd_lt hk (by omega)) z oq rfl sJ_ne ?_) (hS.put z oq (Nat.le_add_right B a)) hL
  rw [cE_J (show kd (sJ h a i.toNatClampNeg x) a = 11 from hk)]
  show H1[B + a]? = some (vp_cell _ _)
  rw [e1, vp_cell_l, vp_cell_l, arrV_store]
  congr 2
  funext q
  simp only [updV, hJ, sJ, up2_eq]
  split <;> rfl
end XH
