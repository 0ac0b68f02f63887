/-! The law: a judgement for its body, its rows, its calls. -/
def lw_P (b : Addr) (xs : List Int32) (args : Array Value) (s : State) : Prop := args = #[.ref b] ∧ s.IntsAt b xs ∧ xs.length ≤ 3584 ∧ (Jvm.Cond.and given_1 narrow_1).before args s = true
def lw_Q (_ : Array Value) (s : State) (o : Outcome) (t : State) : Prop := o = .returned (some (.int 1)) ∧ Framed s o t [] 1200000 5502250
def lw_Z (below : List Frame) (a : Array Value) (s : State) : State → Prop := fun t => ∃ o, t.status = .running ∧ Ended t below o ∧ lw_Q a s o t
theorem lw_ret {p : Program} {l : Launch} {e : Env} {s : State} {m : MethodId} {below : List Frame} {meth : Method} {c : Code} {b : Nat} (hx : p.tables.exec = Jvm.exec) (hb : c.code = code) (hr : meth.sig.returnType = ret) (hlocks : meth.locks = false) {pc : Nat} {H : Heap} {ls : Array Slot} (hdg : decode code pc = .ok (.ireturn, 1)) : W p l e room_1 s m #[Value.ref b] below meth c H [] 1200000 5502250 (lw_Z below #[Value.ref b] s) (F0 m pc ls [.int 1]) := by
  intro T hT X
  obtain ⟨fs, hret, hrun, hended, hW, hframe⟩ := X.leave (v := some (.int 1)) (hlocks := hlocks) (fun h => by rw [hr] at h; cases h)
  have hmeth' : T.vm.method? m = some meth := X.method'
  refine ⟨T.setFrames fs, ?_, .returned (some (.int 1)), hrun, hended, rfl, ⟨_, rfl⟩, hW, hframe⟩
  jvm_step X.here [X.here.top, hx, hb, hdg, hmeth', hr, ret, narrow_b1]
  (try refine ⟨rfl, ?_⟩); (try refine ⟨rfl, ?_⟩)
  first | (intro acts; rw [hret _ acts rfl rfl rfl]) | rw [hret _ _ rfl rfl rfl]
  exact Steps.refl _
def lw_At (p : Program) (s : State) (m : MethodId) (meth : Method) (c : Code) (b L : Nat) (xs : Nat → Int32) : Prop :=
  p.tables.exec = Jvm.exec ∧ c.code = code ∧ meth.sig.returnType = ret ∧ c.maxLocals = 4 ∧ s.vm.findClass R_law = some m.cls ∧ (∀ w ∈ lw_tbl, w.before #[Value.ref b] s = true) ∧ va_X b L xs s s.heap ∧ b < s.heap.size ∧ meth.locks = false ∧ (Jvm.Cond.and given_1 narrow_1).before #[Value.ref b] s = true
def LW (p : Program) (l : Launch) (e : Env) (s : State) (m : MethodId) (below : List Frame) (meth : Method) (c : Code) (b : Nat) (D : va_G) (cA : Nat → ClassId) (bc bs pc : Nat) (i : Int32) (st : List Value) (h : HP) : Prop :=
  ∀ (H : Heap) (locs : List Loc) (cells slots : Nat) (ls : Array Slot), cells + bc ≤ 1200000 → slots + bs ≤ 5502250 → Rep D cA s.heap.size h H → va_S (fun q => s.heap.size ≤ q) s.heap H locs → lv_has ls 4 [(0, .ref b), (1, .ref s.heap.size), (2, .ref (s.heap.size + 115)), (3, .int i)] → W p l e room_1 s m #[Value.ref b] below meth c H locs cells slots (lw_Z below #[Value.ref b] s) (F0 m pc ls st)
def LC (p : Program) (s : State) (m : MethodId) (meth : Method) (c : Code) (b L : Nat) (xs : Nat → Int32) (D : va_G) (cA : Nat → ClassId) : Prop := lw_At p s m meth c b L xs ∧ va_K D vwCl (tysA cA) s ∧ NW s ∧ L ≤ 3584
def dA (pc : Nat) (n : Int) : Prop := decode code pc = .ok (.aload_n 0, 1) ∧ decode code (pc + 1) = .ok (.iload_n 3, 1) ∧ decode code (pc + 2) = .ok (.iconst n, 1) ∧ decode code (pc + 3) = .ok (.iadd, 1) ∧ decode code (pc + 4) = .ok (.iaload, 1)
def lgv (x y : Int32) : Int64 := (x.toInt64 <<< ((32 : Int32).toInt64 &&& 63)) ||| (y.toInt64 &&& 4294967295)
section LAW
variable {p : Program} {l : Launch} {e : Env} {s : State} {m : MethodId} {below : List Frame} {meth : Method} {c : Code} {b L : Nat} {xs : Nat → Int32} {D : va_G} {cA : Nat → ClassId} {bc bs pc : Nat} {i : Int32} {st : List Value} {h : HP}
theorem lw_tb {s : State} {b : Nat} (h : ∀ w ∈ lw_tbl, w.before #[Value.ref b] s = true) : ∀ w ∈ TB, w.before #[Value.ref b] s = true := fun w hw => h w (List.mem_filter.mp hw).1
theorem lw_bud {bc2 bs2 : Nat} (h1 : bc2 ≤ bc) (h2 : bs2 ≤ bs) (nx : LW p l e s m below meth c b D cA bc2 bs2 pc i st h) : LW p l e s m below meth c b D cA bc bs pc i st h := fun H locs cells slots ls a1 a2 a3 a4 a5 => nx H locs cells slots ls (by omega) (by omega) a3 a4 a5
theorem lw_al1 (C : LC p s m meth c b L xs D cA) (hd : decode code pc = .ok (.aload_n 1, 1)) (nx : LW p l e s m below meth c b D cA bc bs (pc + 1) i (.ref (s.heap.size + 0) :: st) h) : LW p l e s m below meth c b D cA bc bs pc i st h := by
  intro H locs cells slots ls a1 a2 a3 a4 hl
  obtain ⟨⟨hx, hb, hr, hml, hown, hts, hX, hbl, hlocks, hgv⟩, hK, hN, hL⟩ := id C
  exact lv_aload_n hx hb hd rfl (lv_at hl 1 rfl) (nx H locs cells slots ls a1 a2 a3 a4 hl)
theorem lw_al2 (C : LC p s m meth c b L xs D cA) (hd : decode code pc = .ok (.aload_n 2, 1)) (nx : LW p l e s m below meth c b D cA bc bs (pc + 1) i (.ref (s.heap.size + 115) :: st) h) : LW p l e s m below meth c b D cA bc bs pc i st h := by
  intro H locs cells slots ls a1 a2 a3 a4 hl
  obtain ⟨⟨hx, hb, hr, hml, hown, hts, hX, hbl, hlocks, hgv⟩, hK, hN, hL⟩ := id C
  exact lv_aload_n hx hb hd rfl (lv_at hl 2 rfl) (nx H locs cells slots ls a1 a2 a3 a4 hl)
theorem lw_arg (n t : Nat) (C : LC p s m meth c b L xs D cA) (hd : dA pc n) (hn : n < 7) (ht : t + 7 ≤ L) (nx : LW p l e s m below meth c b D cA bc bs (pc + 5) (nI t) (.int (xs (t + n)) :: st) h) : LW p l e s m below meth c b D cA bc bs pc (nI t) st h := by
  intro H locs cells slots ls a1 a2 a3 a4 hl
  obtain ⟨⟨hx, hb, hr, hml, hown, hts, hX, hbl, hlocks, hgv⟩, hK, hN, hL⟩ := id C
  have hbA : ¬ (fun q : Nat => s.heap.size ≤ q) b := Nat.not_le.mpr hbl
  obtain ⟨d1, d2, d3, d4, d5⟩ := hd
  refine lv_aload_n hx hb d1 rfl (lv_at hl 0 rfl) (lv_iload_n hx hb d2 rfl (lv_at hl 3 rfl) (lv_iconst (v := nI n) hx hb d3 rfl (lv_iadd hx hb d4 ?_)))
  rw [nI_add]
  refine va_sld hx hb hX hbl hbA a4 (vp_in_nI (by omega) (by omega)) d5 ?_
  rw [nI_clamp (by omega)]
  exact nx H locs cells slots ls a1 a2 a3 a4 hl
theorem lw_arg6 (t : Nat) (C : LC p s m meth c b L xs D cA) (d1 : decode code pc = .ok (.aload_n 0, 1)) (d2 : decode code (pc + 1) = .ok (.iload_n 3, 1)) (d3 : decode code (pc + 2) = .ok (.bipush 6, 2)) (d4 : decode code (pc + 4) = .ok (.iadd, 1)) (d5 : decode code (pc + 5) = .ok (.iaload, 1)) (ht : t + 7 ≤ L) (nx : LW p l e s m below meth c b D cA bc bs (pc + 6) (nI t) (.int (xs (t + 6)) :: st) h) : LW p l e s m below meth c b D cA bc bs pc (nI t) st h := by
  intro H locs cells slots ls a1 a2 a3 a4 hl
  obtain ⟨⟨hx, hb, hr, hml, hown, hts, hX, hbl, hlocks, hgv⟩, hK, hN, hL⟩ := id C
  have hbA : ¬ (fun q : Nat => s.heap.size ≤ q) b := Nat.not_le.mpr hbl
  refine lv_aload_n hx hb d1 rfl (lv_at hl 0 rfl) (lv_iload_n hx hb d2 rfl (lv_at hl 3 rfl) (lv_bipush (v := nI 6) hx hb d3 (by decide) (lv_iadd hx hb d4 ?_)))
  rw [nI_add]
  refine va_sld hx hb hX hbl hbA a4 (vp_in_nI (by omega) (by omega)) d5 ?_
  rw [nI_clamp (by omega)]
  exact nx H locs cells slots ls a1 a2 a3 a4 hl
theorem lw_sh {x : Int32} (C : LC p s m meth c b L xs D cA) (d1 : decode code pc = .ok (.i2l, 1)) (d2 : decode code (pc + 1) = .ok (.bipush 32, 2)) (d3 : decode code (pc + 3) = .ok (.lshl, 1)) (nx : LW p l e s m below meth c b D cA bc bs (pc + 4) i (.long (x.toInt64 <<< ((32 : Int32).toInt64 &&& 63)) :: st) h) : LW p l e s m below meth c b D cA bc bs pc i (.int x :: st) h := by
  intro H locs cells slots ls a1 a2 a3 a4 hl
  obtain ⟨⟨hx, hb, hr, hml, hown, hts, hX, hbl, hlocks, hgv⟩, hK, hN, hL⟩ := id C
  exact lv_i2l hx hb d1 rfl (lv_bipush (v := (32 : Int32)) hx hb d2 (by decide) (lv_lshl hx hb d3 rfl (nx H locs cells slots ls a1 a2 a3 a4 hl)))
theorem lw_mask {y : Int32} {x : Int64} (C : LC p s m meth c b L xs D cA) (d1 : decode code pc = .ok (.i2l, 1)) (d2 : decode code (pc + 1) = .ok (.ldc2_w 31, 3)) (d3 : decode code (pc + 4) = .ok (.land, 1)) (d4 : decode code (pc + 5) = .ok (.lor, 1)) (nx : LW p l e s m below meth c b D cA bc bs (pc + 6) i (.long (x ||| (y.toInt64 &&& 4294967295)) :: st) h) : LW p l e s m below meth c b D cA bc bs pc i (.int y :: .long x :: st) h := by
  intro H locs cells slots ls a1 a2 a3 a4 hl
  obtain ⟨⟨hx, hb, hr, hml, hown, hts, hX, hbl, hlocks, hgv⟩, hK, hN, hL⟩ := id C
  exact lv_i2l hx hb d1 rfl (lv_ldc2 (own := R_law) hx hb hown (lw_tb hts _ (okP_in lk_long)) d2 (lv_land hx hb d3 (lv_lor hx hb d4 (nx H locs cells slots ls a1 a2 a3 a4 hl))))
theorem lw_eqI {x : Int32} {off : Int} {tgt : Nat} (C : LC p s m meth c b L xs D cA) (hd : decode code pc = .ok (.if_icmp .eq off, 3)) (ht : (pc : Int) + off = (tgt : Int)) (nx : LW p l e s m below meth c b D cA bc bs tgt i st h) : LW p l e s m below meth c b D cA bc bs pc i (.int x :: .int x :: st) h := by
  intro H locs cells slots ls a1 a2 a3 a4 hl
  obtain ⟨⟨hx, hb, hr, hml, hown, hts, hX, hbl, hlocks, hgv⟩, hK, hN, hL⟩ := id C
  exact lv_icmp_eq hx hb hd ht (fun _ => nx H locs cells slots ls a1 a2 a3 a4 hl) (fun q => absurd rfl q)
theorem lw_behind {idx : Nat} {st0 rest : List Value} {a0 : Array Value} {mc ms : Nat} {Q1 : Option Value → HP → Prop} {H : Heap} {locs : List Loc} {cells slots : Nat} {ls : Array Slot}
    (hr : va_Run p l e room_1 s m #[Value.ref b] below meth c H locs cells slots mc ms (F0 m pc ls st0) rest (Qx Q1 D cA s.heap.size a0) (fun q => s.heap.size ≤ q)) (hc : cells + bc ≤ 1200000) (hs : slots + bs ≤ 5502250) (h1 : mc ≤ bc) (h2 : ms ≤ bs) (hS : va_S (fun q => s.heap.size ≤ q) s.heap H locs)
    (nx : ∀ r h1, Q1 r h1 → ∀ (H1 : Heap) (locs1 : List Loc), Rep D cA s.heap.size h1 H1 → va_S (fun q => s.heap.size ≤ q) s.heap H1 locs1 → W p l e room_1 s m #[Value.ref b] below meth c H1 locs1 (cells + mc) (slots + ms) (lw_Z below #[Value.ref b] s) (F0 m (pc + 3) ls ((r.map (tr s.heap.size)).toList ++ rest))) : W p l e room_1 s m #[Value.ref b] below meth c H locs cells slots (lw_Z below #[Value.ref b] s) (F0 m pc ls st0) := by
  intro T hT XX
  obtain ⟨v, st₀, t, T', Lo, h0, X', hLo, e1, e2, ⟨⟨r, hh, ho, hq, hRep1⟩, hz, hk⟩, st⟩ := hr T hT XX
  cases ho
  rw [h0] at hz hk
  have hS' : va_S (fun q => s.heap.size ≤ q) s.heap T'.heap (locs ++ Lo) := ⟨Nat.le_trans hS.1 (by rw [e1]; exact hz), fun q q1 q2 => by rw [e1, hk q (Nat.lt_of_lt_of_le q1 hS.1) q2]; exact hS.2.1 q q1 q2, fun q hq => by
      rcases List.mem_append.mp hq with h | h
      · exact hS.2.2 q h
      · exact hLo q h⟩
  obtain ⟨t2, a1, b1⟩ := nx r hh hq T'.heap (locs ++ Lo) (by rw [e1]; exact hRep1) hS' T' rfl X'
  exact ⟨t2, st t2 a1, b1⟩
theorem lw_call {idx k1 a1 a2 a3 b0 : Nat} {as rest : List Value} {Q1 : Option Value → HP → Prop} (C : LC p s m meth c b L xs D cA) (hd : decode code pc = .ok (.invokevirtual idx, 3)) (hlk : okL idx k1 a1 a2 a3 = true) (hk1 : k1 < 116) (ho10 : owM k1 < 10) (hkb : kd h b0 = owM k1) (hn : as.length = naM k1) (hf : frM k1 + 1 ≤ 9) (hw : 8 + (mxl k1 + 11) + lwM k1 ≤ 396) (hr : (rest.map fun v => v.category).sum ≤ 8) (hl : (lay (.ref b0 :: as)).length ≤ mxl k1) (h1 : cel k1 ≤ bc) (h2 : slo k1 ≤ bs)
    (hX : X k1 Q1 (cel k1) (slo k1) 0 (ini (mxl k1) (.ref b0 :: as)) [] h) (nx : ∀ r h1, Q1 r h1 → LW p l e s m below meth c b D cA (bc - cel k1) (bs - slo k1) (pc + 3) i ((r.map (tr s.heap.size)).toList ++ rest) h1) : LW p l e s m below meth c b D cA bc bs pc i ((as.map (tr s.heap.size)).reverse ++ .ref (s.heap.size + b0) :: rest) h := by
  intro H locs cells slots ls q1 q2 hRep hS hll
  obtain ⟨⟨hx, hb, hrt, hml, hown, hts, hXs, hbl, hlocks, hgv⟩, hK, hN, hL⟩ := id C
  have x6 := lw_tb hts
  obtain ⟨y1, y2, y3, y4, y5, y6⟩ := Y_all hk1
  obtain ⟨g1, g2, g3, g4⟩ := cl_fact ho10
  have hcn : cn (owM k1) = (clQ (owM k1)).1 := by
    have : owM k1 = 0 ∨ owM k1 = 1 ∨ owM k1 = 2 ∨ owM k1 = 3 ∨ owM k1 = 4 ∨ owM k1 = 5 ∨ owM k1 = 6 ∨ owM k1 = 7 ∨ owM k1 = 8 ∨ owM k1 = 9 := by omega
    rcases this with e | e | e | e | e | e | e | e | e | e <;> rw [e] <;> rfl
  have hM := X_met hk1 hl hX l D cA s.heap.size
  have hrec : ∃ cell : Cell, H[s.heap.size + b0]? = some cell ∧ cell.vm.isStatics = false ∧ s.vm.findClass (yM k1).cls = some cell.cls := by
    have h9 := va_recv (q0 := b0) (a := s.heap.size + b0) (ci := owM k1) hK hRep.2 g1 (by rw [wsH_get (kd_lt hkb (by omega)), cE_obj hkb ho10])
    rw [y2, hcn]
    exact h9
  have hp : PreV s H (yM k1).cls (s.heap.size + b0) (PcX D cA s.heap.size h (.ref b0 :: as)) (as.map (tr s.heap.size)) := ⟨PcX_blind, hrec, fun U hU hW => ⟨rfl, by rw [hU]; exact hS.1, by rw [hU]; exact hRep, va_K.moved hW.alike hK, NW_warm hW hN⟩⟩
  have hroom := lv_room (m := m) (pc := pc) (ls := ls) (rest := (as.map (tr s.heap.size)).reverse ++ .ref (s.heap.size + b0) :: rest) (st := rest) hr
  have ho := hlk
  simp only [okL, Bool.and_eq_true] at ho
  refine lw_behind (idx := idx) (va_runV (C := (yM k1).cls) (As := as.map (tr s.heap.size)) (rest := rest) (nL := 4) (cc := code) (own := R_law) (Ts := TB) ⟨hx, hb, hml, hown, x6⟩ hM ⟨callB_of (naM k1) x6 (good_ws k1 hk1) rfl rfl rfl (x6 _ y1) (x6 _ (okP_in ho.1.1)) ⟨y3, y4, y5⟩ ⟨by show frM k1 + 1 ≤ 9; omega, by show 8 + (mxl k1 + 11) + lwM k1 ≤ 396; omega⟩, x6 _ (okP_in ho.1.2), x6 _ (okP_in ho.2)⟩ hp rfl (by simpa using hn) hll.1 rfl hroom hd ⟨by show cells + _ ≤ 1200000; omega, by show slots + _ ≤ 5502250; omega⟩) q1 q2 h1 h2 hS (fun r h1' hq H1 locs1 hR1 hS1 => ?_)
  exact nx r h1' hq H1 locs1 _ _ ls (by omega) (by omega) hR1 hS1 hll
end LAW
