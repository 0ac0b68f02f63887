/-! The law's start. -/
def A0 : AST := ((0, fun _ => 0, fun _ _ => 0, fun _ _ => 0, fun _ _ => 0), (0, fun _ => 0, fun _ => 0, fun _ => 0), none, fun _ => none, fun _ => (false, 0, 0, fun _ => 0), 0)
theorem A0_good : Good A0 := by
  refine ⟨⟨Nat.zero_le _, fun p hp => absurd hp (Nat.not_lt_zero _)⟩, ⟨Nat.zero_le _, fun i hi => ⟨(by unfold IB; decide : IB 0), (by unfold IB; decide : IB 0), (by unfold IB; decide : IB 0), fun q => absurd q (Nat.not_lt_zero _)⟩⟩, fun R e => (by cases e), fun k hk r s e => (by cases e), fun s hs => ⟨Nat.zero_le _, (by decide : (0 : Int) ≤ (0 : Int32).toInt), (by decide : (0 : Int32).toInt ≤ 2)⟩⟩
set_option maxRecDepth 100000 in
theorem A0_ring (b : Nat) (hb : b = 6 ∨ b = 122) : ∀ i, i < 12 → hI hx318 (b + 1) i = 0 ∧ hI hx318 (b + 2) i = 0 ∧ hI hx318 (b + 3) i = 0 := by
  rcases hb with rfl | rfl <;> decide +kernel
set_option maxRecDepth 100000 in
theorem A0_flags : hI hx318 2 3 = 0 ∧ hI hx318 6 3 = 0 ∧ hI hx318 10 7 = 0 ∧ hI hx318 0 11 = 0 ∧ (∀ k, k < 3 → hI hx318 (94 + 7 * k) 2 = 0) ∧ (∀ s, s < 4 → hI hx318 (86 + 2 * s) 1 = 0) := by decide +kernel
set_option maxRecDepth 100000 in
theorem A0_flagm : hI hx318 115 4 = 0 ∧ hI hx318 115 11 = 0 ∧ hI hx318 115 21 = 0 ∧ hI hx318 115 0 = 0 ∧ (∀ k, k < 3 → hI hx318 134 k = 0) ∧ (∀ s, s < 4 → hI hx318 117 s = -1) := by decide +kernel
theorem A0_ci : CI hx318 A0 := by
  obtain ⟨f1, f2, f3, f4, f5, f6⟩ := A0_flags
  refine ⟨Str_start, ⟨f1, fun p hp => absurd hp (Nat.not_lt_zero _)⟩, ⟨f2, fun i hi => A0_ring 6 (Or.inl rfl) i hi⟩, ⟨fun _ => f3, fun R e => (by cases e)⟩, fun k hk => ⟨fun _ => f5 k hk, fun r s e => (by cases e)⟩, fun s hs => ⟨fun _ => f6 s hs, fun e => (by cases e)⟩, f4⟩
theorem A0_mi : MI hx318 A0 := by
  obtain ⟨f1, f2, f3, f4, f5, f6⟩ := A0_flagm
  refine ⟨⟨f1, fun p hp => absurd hp (Nat.not_lt_zero _)⟩, ⟨f2, fun i hi => A0_ring 122 (Or.inr rfl) i hi⟩, ⟨fun _ => f3, fun R e => (by cases e)⟩, fun k hk => ⟨fun _ => f5 k hk, fun r s e => (by cases e)⟩, fun s hs => ⟨fun _ => f6 s hs, fun e => (by cases e)⟩, f4⟩
def IPos : List Nat := [228, 64, 100, 207, 138, 56, 324, 129, 46, 597]
set_option maxRecDepth 100000 in
theorem inst_ok : ((List.range 10).all fun c => okP (.instantiable (clQ c).1 (clQ c).2.2) (IPos.getD c 0)) = true := by decide +kernel
set_option maxRecDepth 100000 in
theorem over_ok : lw_tbl[202]? = some (Cond.arrayOver (.object "ColdHouse$Image")) ∧ lw_tbl[54]? = some (Cond.arrayOver (.object "ColdHouse$Sheet")) ∧ lw_tbl[135]? = some (Cond.arrayOver (.object "ColdHouse$State")) ∧ lw_tbl[62]? = some (Cond.arrayOver (.object "ColdHouse$Table")) := by decide +kernel
theorem st_NW {s : State} {b : Nat} (hts : ∀ w ∈ lw_tbl, w.before #[Value.ref b] s = true) : NW s := by
  refine ⟨fun w hw hn => ?_, fun C hC => va_AO.of (hts _ hC)⟩
  have h1 := hts w hw
  cases w <;> first | exact va_Nw.of rfl h1 | cases hn
theorem st_arr {s : State} {args : Array Value} {ty : FieldType} (h : (Cond.arrayClass ty).before args s = true) : ∃ cI : ClassId, ArrOfT s cI ty ∧ s.vm.findClass ("[" ++ ty.toString) = some cI := by
  obtain ⟨cI, kA, comp, h1, h2, h3⟩ := Cond.arrayClass_spec h
  exact ⟨cI, fun n z => ⟨fun k h => (by cases h), kA, h2, comp, h3⟩, h1⟩
theorem st_arrO {s : State} {args : Array Value} {C : String} (h : (Cond.arrayOver (.object C)).before args s = true) : ∃ cI : ClassId, ArrOfT s cI (.object C) ∧ va_RA s cI (.object C) := by
  obtain ⟨comp, cI, kA, h1, h2, h3, h4, h5⟩ := Cond.arrayOver_spec h
  exact ⟨cI, fun n z => ⟨fun k h => (by cases h), kA, h3, comp, h4⟩, kA, comp, h3, h4, h1, h5⟩
theorem st_K {s : State} {b : Nat} (hts : ∀ w ∈ lw_tbl, w.before #[Value.ref b] s = true) : ∃ (D : va_G) (cA : Nat → ClassId), va_K D vwCl (tysA cA) s := by
  have x6 := lw_tb hts
  have hc : ∀ c : Nat, ∃ q : ClassId × (Nat → Nat), c < 10 → u_Kn s (clQ c).1 (clQ c).2.1 (clQ c).2.2 q.1 q.2 := by
    intro c
    by_cases hc : c < 10
    · obtain ⟨cC, iS, h⟩ := u_known x6 (cl_fact hc).2.1 (x6 _ (okP_in (List.all_eq_true.mp inst_ok c (List.mem_range.mpr hc))))
      exact ⟨(cC, iS), fun _ => h⟩
    · exact ⟨(0, fun _ => 0), fun h => absurd h hc⟩
  obtain ⟨f, hf⟩ := Classical.skolem.mp hc
  have hob := obj_ok
  simp only [Bool.and_eq_true] at hob
  obtain ⟨o1, o2, o3, o4⟩ := over_ok
  obtain ⟨c10, p10, r10⟩ := st_arr (x6 _ (okP_in hob.1.1.2))
  obtain ⟨c11, p11, r11⟩ := st_arr (x6 _ (okP_in hob.1.2))
  obtain ⟨c12, p12, r12⟩ := st_arr (x6 _ (okP_in hob.2))
  obtain ⟨c13, p13, r13⟩ := st_arrO (hts _ (List.mem_of_getElem? o1))
  obtain ⟨c14, p14, r14⟩ := st_arrO (hts _ (List.mem_of_getElem? o2))
  obtain ⟨c15, p15, r15⟩ := st_arrO (hts _ (List.mem_of_getElem? o3))
  obtain ⟨c16, p16, r16⟩ := st_arrO (hts _ (List.mem_of_getElem? o4))
  refine ⟨(fun c => (f c).1, fun c => (f c).2), fun k => if k = 10 then c10 else if k = 11 then c11 else if k = 12 then c12 else if k = 13 then c13 else if k = 14 then c14 else if k = 15 then c15 else c16, fun c q hq => ?_, fun k q hq => ?_⟩
  · have h10 : c < 10 := (List.getElem?_eq_some_iff.mp hq).1
    have e := (cl_fact h10).1
    rw [hq] at e
    cases e
    exact hf c h10
  · match k, hq with
    | 0, hq => cases hq; exact ⟨p10, r10⟩
    | 1, hq => cases hq; exact ⟨p11, r11⟩
    | 2, hq => cases hq; exact ⟨p12, r12⟩
    | 3, hq => cases hq; exact ⟨p13, r13⟩
    | 4, hq => cases hq; exact ⟨p14, r14⟩
    | 5, hq => cases hq; exact ⟨p15, r15⟩
    | 6, hq => cases hq; exact ⟨p16, r16⟩
    | k + 7, hq => simp [tysA] at hq
section LAWS
variable {p : Program} {l : Launch} {e : Env} {s : State} {m : MethodId} {below : List Frame} {meth : Method} {c : Code} {b L : Nat} {xs : Nat → Int32} {D : va_G} {cA : Nat → ClassId} {bc bs pc : Nat} {i : Int32} {st : List Value} {h : HP}
theorem lw_newW {idx c0 : Nat} {H : Heap} {locs : List Loc} {cells slots : Nat} {ls : Array Slot} (C : LC p s m meth c b L xs D cA) (f1 : c0 < 10) (f2 : Cond.classLink R_law idx (clQ c0).1 ∈ TB) (f3 : Cond.instantiable (clQ c0).1 (clQ c0).2.2 ∈ TB) (f4 : Cond.initialized (clQ c0).1 ∈ TB) (hd : decode code pc = .ok (.new idx, 3)) (hc : cells + 1 ≤ 1200000) (hs : slots + nfl c0 ≤ 5502250) (hRep : Rep D cA s.heap.size h H) (hS : va_S (fun q => s.heap.size ≤ q) s.heap H locs)
    (nx : ∀ H1, Rep D cA s.heap.size (nw h c0 0) H1 → va_S (fun q => s.heap.size ≤ q) s.heap H1 locs → W p l e room_1 s m #[Value.ref b] below meth c H1 locs (cells + 1) (slots + nfl c0) (lw_Z below #[Value.ref b] s) (F0 m (pc + 3) ls (.ref (s.heap.size + h.1.length) :: st))) : W p l e room_1 s m #[Value.ref b] below meth c H locs cells slots (lw_Z below #[Value.ref b] s) (F0 m pc ls st) := by
  obtain ⟨⟨hx, hb, hr, hml, hown, hts, hX, hbl, hlocks, hgv⟩, hK, hN, hL⟩ := id C
  have x6 := lw_tb hts
  obtain ⟨g1, g2, g3, g4⟩ := cl_fact f1
  have hKn := hK.1 c0 _ g1
  refine W.newcK hx hb hown (x6 _ f2) (x6 _ f3) (x6 _ f4) rfl hd (by show cells + 1 ≤ 1200000; omega) (by show slots + nfl c0 ≤ 5502250; omega) hKn.2.1 rfl fun H1 kC hkC e1 z1 o1 => ?_
  have hz : H.size = s.heap.size + h.1.length := hRep.1
  have key := nx H1 (rep_push hRep z1 o1 ?_) (S_push hS z1 o1)
  · rw [hz]
    exact key
  · rw [cE_obj kd_nw f1, ← hz]
    refine ⟨_, g1, (u_born (fty c0) x6 g2 hKn hkC e1 g3).to fun j hj => ?_⟩
    rw [dflt_fv _ (ty_all f1 hj)]
    show _ = (fls s.heap.size (nw h c0 0) h.1.length c0 (nfl c0)).getD j .null
    rw [List.getD, fls_get (n := nfl c0) hj]
    simp only [hR, hI, hJ, nw, up1_eq, Option.getD_some]
    cases fty c0 j <;> rfl
theorem lw_initW {idx k1 a1 a2 b0 : Nat} {rest : List Value} {Q1 : Option Value → HP → Prop} {H : Heap} {locs : List Loc} {cells slots : Nat} {ls : Array Slot} (C : LC p s m meth c b L xs D cA) (hd : decode code pc = .ok (.invokespecial idx, 3)) (hlk : okI idx k1 a1 a2 = true) (hk1 : k1 < 116) (hrt : rtM k1 = none) (hn : 0 = naM k1) (hf : frM k1 + 1 ≤ 9) (hw : 8 + (mxl k1 + 11) + lwM k1 ≤ 396) (hr : (rest.map fun v => v.category).sum ≤ 8) (hl : (lay [.ref b0]).length ≤ mxl k1) (h1 : cells + cel k1 ≤ 1200000) (h2 : slots + slo k1 ≤ 5502250)
    (hX : X k1 Q1 (cel k1) (slo k1) 0 (ini (mxl k1) [.ref b0]) [] h) (hRep : Rep D cA s.heap.size h H) (hS : va_S (fun q => s.heap.size ≤ q) s.heap H locs) (hll : ls.size = 4)
    (nx : ∀ r h1, Q1 r h1 → ∀ (H1 : Heap) (locs1 : List Loc), Rep D cA s.heap.size h1 H1 → va_S (fun q => s.heap.size ≤ q) s.heap H1 locs1 → W p l e room_1 s m #[Value.ref b] below meth c H1 locs1 (cells + cel k1) (slots + slo k1) (lw_Z below #[Value.ref b] s) (F0 m (pc + 3) ls ((r.map (tr s.heap.size)).toList ++ rest))) : W p l e room_1 s m #[Value.ref b] below meth c H locs cells slots (lw_Z below #[Value.ref b] s) (F0 m pc ls (.ref (s.heap.size + b0) :: rest)) := by
  obtain ⟨⟨hx, hb, hrt', hml, hown, hts, hXs, hbl, hlocks, hgv⟩, hK, hN, hL⟩ := id C
  have x6 := lw_tb hts
  obtain ⟨y1, y2, y3, y4, y5, y6⟩ := Y_all hk1
  have hM := X_met hk1 (as := [.ref b0]) hl hX l D cA s.heap.size
  have hp : PreS s H (PcX D cA s.heap.size h [.ref b0]) (.ref (s.heap.size + b0) :: []) := ⟨PcX_blind, fun U hU hW => ⟨rfl, by rw [hU]; exact hS.1, by rw [hU]; exact hRep, va_K.moved hW.alike hK, NW_warm hW hN⟩⟩
  have hroom := lv_room (m := m) (pc := pc) (ls := ls) (rest := .ref (s.heap.size + b0) :: rest) (st := rest) hr
  have hwk : wsM k1 = Cond.code (yM k1) (cM k1) (mxl k1) none :: TB := by unfold wsM; rw [hrt]
  have ho := hlk
  simp only [okI, Bool.and_eq_true, decide_eq_true_eq] at ho
  exact lw_behind (idx := idx) (bc := cel k1) (bs := slo k1) (va_runI (As := []) (rest := rest) (nL := 4) (cc := code) (own := R_law) (Ts := TB) ⟨hx, hb, hml, hown, x6⟩ hM (cwI (naM k1) x6 (good_ws k1 hk1) hwk rfl rfl (x6 _ y1) (x6 _ (okP_in ho.1.1)) (x6 _ (okP_in ho.1.2)) ho.2 ⟨y3, y4, y5⟩ ⟨by show frM k1 + 1 ≤ 9; omega, by show 8 + (mxl k1 + 11) + lwM k1 ≤ 396; omega⟩) hp rfl hn hll rfl hroom hd ⟨by show cells + _ ≤ 1200000; omega, by show slots + _ ≤ 5502250; omega⟩) h1 h2 (Nat.le_refl _) (Nat.le_refl _) hS nx
end LAWS
set_option maxRecDepth 100000 in
theorem law_counts : cel 40 = 114 ∧ slo 40 = 624 ∧ cel 71 = 23 ∧ slo 71 = 722 ∧ nfl 8 = 12 ∧ nfl 9 = 39 ∧ hx271.1.length = 115 := by decide +kernel
set_option maxRecDepth 100000 in
theorem whole_start {p : Program} {e : Env} {s : State} {m : MethodId} {below : List Frame} {meth : Method} {c : Code} (l : Launch) {b L : Nat} {xs : Nat → Int32} (hL : L ≤ 3584) (C0 : lw_At p s m meth c b L xs) : W p l e room_1 s m #[Value.ref b] below meth c s.heap [] 0 0 (lw_Z below #[Value.ref b] s) (entryFrame m ([Value.ref b] : List Value).toArray 4) := by
  obtain ⟨hx, hb, hr, hml, hown, hts, hX, hbl, hlocks, hgv⟩ := id C0
  obtain ⟨D, cA, hK⟩ := st_K hts
  have C : LC p s m meth c b L xs D cA := ⟨C0, hK, st_NW hts, hL⟩
  obtain ⟨n1, n2, n3, n4, n5, n6, n7⟩ := law_counts
  have hl := lv_entry ([.ref b]) (n := 4) (Nat.le_of_ble_eq_true rfl)
  rw [lg_entry_eq]
  generalize (lg_sl ([.ref b]) ++ List.replicate (4 - (lg_sl ([.ref b])).length) Slot.unset).toArray = ls at hl ⊢
  have hl : lv_has ls 4 [(0, .ref b)] := hl
  have hRep : Rep D cA s.heap.size ([], fun _ _ => none, fun _ _ => 0, fun _ _ => 0) s.heap := ⟨rfl, fun k q h => by simp [wsH] at h⟩
  have w7 := lk_new_7
  have w10 := lk_new_10
  simp only [Bool.and_eq_true] at w7 w10
  refine lw_newW (c0 := 8) C (by decide) (okP_in w7.1.1) (okP_in w7.1.2) (okP_in w7.2) d_law_0 (by omega) (by omega) hRep va_S.rf (fun H1 hR1 hS1 => ?_)
  refine lv_dup hx hb d_law_3 rfl ?_
  refine lw_initW (k1 := 40) (b0 := 0) (h := hx0) (Q1 := fun r h => r = none ∧ h = hx271) C d_law_4 lk_9 (by decide) (by decide +kernel) (by decide +kernel) (by decide +kernel) (by decide +kernel) (by simp [Value.category]) (by decide +kernel) (by omega) (by omega) (X_bud (bc2 := 114) (bs2 := 624) (by omega) (by omega) (ctor_x ⟨rfl, rfl⟩)) hR1 hS1 hl.1 ?_
  rintro r h1 ⟨rfl, rfl⟩ H2 locs2 hR2 hS2
  refine lv_astore_n (lv' := [(1, .ref s.heap.size), (0, .ref b)]) hx hb d_law_7 rfl hl (by decide) rfl (fun ls hl => ?_)
  refine lw_newW (c0 := 9) C (by decide) (okP_in w10.1.1) (okP_in w10.1.2) (okP_in w10.2) d_law_8 (by omega) (by omega) hR2 hS2 (fun H3 hR3 hS3 => ?_)
  rw [n7]
  refine lv_dup hx hb d_law_11 rfl ?_
  refine lw_initW (k1 := 71) (b0 := 115) (h := hx272) (Q1 := fun r h => r = none ∧ h = hx318) C d_law_12 lk_12 (by decide) (by decide +kernel) (by decide +kernel) (by decide +kernel) (by decide +kernel) (by simp [Value.category]) (by decide +kernel) (by omega) (by omega) (X_bud (bc2 := 23) (bs2 := 722) (by omega) (by omega) (ctor_m ⟨rfl, rfl⟩)) hR3 hS3 hl.1 ?_
  rintro r h1 ⟨rfl, rfl⟩ H4 locs4 hR4 hS4
  refine lv_astore_n (lv' := [(2, .ref (s.heap.size + 115)), (1, .ref s.heap.size), (0, .ref b)]) hx hb d_law_15 rfl hl (by decide) rfl (fun ls hl => ?_)
  refine lv_iconst (v := 0) hx hb d_law_16 (by decide) ?_
  refine lv_istore_n (lv' := [(3, .int 0), (2, .ref (s.heap.size + 115)), (1, .ref s.heap.size), (0, .ref b)]) hx hb d_law_17 rfl hl (by decide) rfl (fun ls hl => ?_)
  exact law_loop C 513 0 A0 hx318 2052 14364 (Nat.zero_le _) (by omega) (by decide) (by decide) A0_good A0_ci A0_mi H4 locs4 _ _ ls (by omega) (by omega) hR4 hS4 (lv_sub hl [3, 2, 1, 0] rfl)
