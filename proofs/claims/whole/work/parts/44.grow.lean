/-! pressure of the class: a new table. -/
def okQ (F O W : Nat → Int) (i : Nat) : Prop := ((0 ≤ F i ∧ F i ≤ 1000) ∧ (0 ≤ O i ∧ O i ≤ 1000) ∧ (-200 ≤ W i ∧ W i ≤ 1000)) ∧ (0 < i → F (i - 1) < F i ∧ O (i - 1) < O i ∧ (i = 1 → W 1 = W 0) ∧ (i ≠ 1 → W (i - 1) < W i))
def pvalid (n : Nat) (F O W : Nat → Int) : Prop := ∀ i, i < n → okQ F O W i
def rwF (row : Nat → Int32) (i : Nat) : Int := (row (3 * i)).toInt
def rwO (row : Nat → Int32) (i : Nat) : Int := (row (3 * i + 1)).toInt
def rwW (row : Nat → Int32) (i : Nat) : Int := (row (3 * i + 2)).toInt
def addT (t : TBT) (n : Nat) (row : Nat → Int32) : TBT := (tnp t + 1, fun p => if p = tnp t then n else tpt t p, fun p => if p = tnp t then rwF row else tF t p, fun p => if p = tnp t then rwO row else tO t p, fun p => if p = tnp t then rwW row else tW t p)
def wT (A : AST) (t : TBT) : AST := (t, aR A, aU A, aM A, aS A, aZ A)
noncomputable def f_pressure (A : AST) (s n : Int32) : Int32 × AST := if 0 ≤ s.toInt ∧ s.toInt ≤ 3 ∧ 2 ≤ n.toInt ∧ n.toInt ≤ 8 then (if (aS A s.toInt.toNat).1 = true then (if 3 * n.toInt ≤ (aS A s.toInt.toNat).2.2.1 then @ite _ (pvalid n.toInt.toNat (rwF (aS A s.toInt.toNat).2.2.2) (rwO (aS A s.toInt.toNat).2.2.2) (rwW (aS A s.toInt.toNat).2.2.2)) (Classical.propDecidable _) (if tnp (aT A) = 10 then (-5, wZ A (-5)) else (nI (tnp (aT A)), wZ (wT A (addT (aT A) n.toInt.toNat (aS A s.toInt.toNat).2.2.2)) 0)) (-1, wZ A (-1)) else (-3, wZ A (-3))) else (-2, wZ A (-2))) else (-1, wZ A (-1))
theorem addT_old {t : TBT} {n : Nat} {row : Nat → Int32} {p : Nat} (hp : p < tnp t) : tpt (addT t n row) p = tpt t p ∧ tF (addT t n row) p = tF t p ∧ tO (addT t n row) p = tO t p ∧ tW (addT t n row) p = tW t p := by
  have e : ¬ p = tnp t := by omega
  refine ⟨if_neg e, if_neg e, if_neg e, if_neg e⟩
theorem addT_new {t : TBT} {n : Nat} {row : Nat → Int32} : tpt (addT t n row) (tnp t) = n ∧ tF (addT t n row) (tnp t) = rwF row ∧ tO (addT t n row) (tnp t) = rwO row ∧ tW (addT t n row) (tnp t) = rwW row := ⟨if_pos rfl, if_pos rfl, if_pos rfl, if_pos rfl⟩
theorem addT_TG {t : TBT} (tg : TG t) {n : Nat} {row : Nat → Int32} (h10 : tnp t ≠ 10) (h2 : 2 ≤ n) (h8 : n ≤ 8) (pv : pvalid n (rwF row) (rwO row) (rwW row)) : TG (addT t n row) := by
  refine ⟨by have := tg.1; show tnp t + 1 ≤ 10; omega, fun p hp => ?_⟩
  have hp' : p < tnp t + 1 := hp
  rcases Nat.lt_or_ge p (tnp t) with q | q
  · obtain ⟨e1, e2, e3, e4⟩ := addT_old (n := n) (row := row) q
    unfold TGp
    rw [e1, e2, e3, e4]
    exact tg.2 p q
  · have e : p = tnp t := by omega
    subst e
    obtain ⟨e1, e2, e3, e4⟩ := addT_new (t := t) (n := n) (row := row)
    unfold TGp
    rw [e1, e2, e3, e4]
    refine ⟨h2, h8, fun i hi => (pv i hi).1, fun i hi => ?_, ((pv 1 (by omega)).2 (by omega)).2.2.1 rfl⟩
    obtain ⟨a1, a2, a3, a4⟩ := (pv (i + 1) hi).2 (by omega)
    exact ⟨a1, a2, fun h1 => a4 (by omega)⟩
theorem addT_SG {t : TBT} {n : Nat} {row : Nat → Int32} {s : PST} (sg : SG t s) : SG (addT t n row) s := by
  obtain ⟨e1, e2, e3, e4⟩ := addT_old (n := n) (row := row) sg.1
  unfold SG
  rw [e1, e2]
  exact ⟨Nat.lt_succ_of_lt sg.1, sg.2⟩
theorem Good_T {A : AST} (g : Good A) {n : Nat} {row : Nat → Int32} (h10 : tnp (aT A) ≠ 10) (h2 : 2 ≤ n) (h8 : n ≤ 8) (pv : pvalid n (rwF row) (rwO row) (rwW row)) : Good (wT A (addT (aT A) n row)) := by
  obtain ⟨g1, g2, g3, g4, g5⟩ := g
  refine ⟨addT_TG g1 h10 h2 h8 pv, g2, fun R e => ⟨(g3 R e).1, fun i hi => addT_SG ((g3 R e).2.1 i hi), (g3 R e).2.2⟩, fun k hk r s e => ?_, g5⟩
  obtain ⟨a1, a2, a3⟩ := g4 k hk r s e
  exact ⟨a1, addT_SG a2, a3⟩
theorem G_pressure {A : AST} (g : Good A) (s n : Int32) : Good (f_pressure A s n).2 := by
  unfold f_pressure
  split
  · split
    · split
      · split
        · split
          · exact Good_Z g _
          · refine Good_Z (Good_T g (by assumption) (by omega) (by omega) (by assumption)) _
        · exact Good_Z g _
      · exact Good_Z g _
    · exact Good_Z g _
  · exact Good_Z g _
/-- the heap has grown; old cells are as they were -/
def Gr (h h' : HP) : Prop := (∃ tl, h'.1 = h.1 ++ tl) ∧ ∀ b, b < h.1.length → (∀ j, hR h' b j = hR h b j) ∧ (∀ j, hI h' b j = hI h b j) ∧ ∀ j, hJ h' b j = hJ h b j
theorem Gr.rfl' {h : HP} : Gr h h := ⟨⟨[], by simp⟩, fun _ _ => ⟨fun _ => rfl, fun _ => rfl, fun _ => rfl⟩⟩
theorem Gr.len {h h' : HP} (g : Gr h h') : h.1.length ≤ h'.1.length := by
  obtain ⟨⟨tl, e⟩, -⟩ := g
  rw [e, List.length_append]
  omega
theorem Gr.kz {h h' : HP} (g : Gr h h') {b : Nat} (hb : b < h.1.length) : kd h' b = kd h b ∧ zl h' b = zl h b := by
  obtain ⟨⟨tl, e⟩, -⟩ := g
  unfold kd zl
  rw [e]
  simp only [List.getD, List.getElem?_append_left hb, and_self]
theorem Gr.nw' {h h1 : HP} (g : Gr h h1) (k z : Nat) : Gr h (nw h1 k z) := by
  have hl := g.len
  obtain ⟨⟨tl, e⟩, g2⟩ := g
  refine ⟨⟨tl ++ [(k, z)], by show h1.1 ++ [(k, z)] = _; rw [e, List.append_assoc]⟩, fun b hb => ?_⟩
  have hne : ¬ b = h1.1.length := by omega
  refine ⟨fun j => ?_, fun j => ?_, fun j => ?_⟩
  · rw [← (g2 b hb).1 j]; unfold nw hR up1; simp [hne]
  · rw [← (g2 b hb).2.1 j]; unfold nw hI up1; simp [hne]
  · rw [← (g2 b hb).2.2 j]; unfold nw hJ up1; simp [hne]
theorem Gr.sR' {h h1 : HP} (g : Gr h h1) {b j : Nat} {v : Option Nat} (hb : h.1.length ≤ b) : Gr h (sR h1 b j v) := ⟨g.1, fun c hc => ⟨fun i => by rw [hR_sR, if_neg (by omega)]; exact (g.2 c hc).1 i, (g.2 c hc).2.1, (g.2 c hc).2.2⟩⟩
theorem Gr.sI' {h h1 : HP} (g : Gr h h1) {b j : Nat} {v : Int32} (hb : h.1.length ≤ b) : Gr h (sI h1 b j v) := ⟨g.1, fun c hc => ⟨(g.2 c hc).1, fun i => by rw [hI_sI, if_neg (by omega)]; exact (g.2 c hc).2.1 i, (g.2 c hc).2.2⟩⟩
theorem kd_nw' (h : HP) (k z b : Nat) : kd (nw h k z) b = if b = h.1.length then k else kd h b := by
  unfold kd nw
  by_cases e : b = h.1.length
  · subst e
    simp
  · rw [if_neg e]
    rcases Nat.lt_or_ge b h.1.length with q | q
    · simp only [List.getD, List.getElem?_append_left q]
    · simp only [List.getD]
      rw [List.getElem?_eq_none (by simp; omega), List.getElem?_eq_none q]
theorem zl_nw' (h : HP) (k z b : Nat) : zl (nw h k z) b = if b = h.1.length then z else zl h b := by
  unfold zl nw
  by_cases e : b = h.1.length
  · subst e
    simp
  · rw [if_neg e]
    rcases Nat.lt_or_ge b h.1.length with q | q
    · simp only [List.getD, List.getElem?_append_left q]
    · simp only [List.getD]
      rw [List.getElem?_eq_none (by simp; omega), List.getElem?_eq_none q]
theorem hR_nw (h : HP) (k z b j : Nat) : hR (nw h k z) b j = if b = h.1.length then none else hR h b j := by
  unfold hR nw up1
  by_cases e : b = h.1.length
  · simp [e]
  · simp [e]
theorem len_nw (h : HP) (k z : Nat) : (nw h k z).1.length = h.1.length + 1 := by simp [nw]
theorem Str_len {h : HP} (hs : Str h) : 139 ≤ h.1.length := by
  obtain ⟨⟨tl, e⟩, -⟩ := hs
  rw [e, List.length_append, K0_len]
  omega
theorem TC_Gr {h h' : HP} (g : Gr h h') (l : 139 ≤ h.1.length) {t : TBT} (c : TC h t) : TC h' t := by
  refine ⟨by rw [(g.2 2 (by omega)).2.1]; exact c.1, fun p hp => ?_⟩
  obtain ⟨T, a1, a2, a3, a4, a5, a6, a7, a8, a9, a10⟩ := c.2 p hp
  have l0 := kd_lt a3 (by omega)
  have l1 := kd_lt a8.1 (by omega)
  have l2 := kd_lt a9.1 (by omega)
  have l3 := kd_lt a10.1 (by omega)
  have col : ∀ {b n : Nat} {f : Nat → Int}, b < h.1.length → COL h b n f → COL h' b n f := fun hb q => ⟨by rw [(g.kz hb).1]; exact q.1, by rw [(g.kz hb).2]; exact q.2.1, fun i hi => by rw [(g.2 _ hb).2.1]; exact q.2.2 i hi⟩
  exact ⟨T, by rw [(g.2 3 (by omega)).1]; exact a1, a2, by rw [(g.kz l0).1]; exact a3, by rw [(g.2 T l0).1]; exact a4, by rw [(g.2 T l0).1]; exact a5, by rw [(g.2 T l0).1]; exact a6, by rw [(g.2 T l0).2.1]; exact a7, col l1 a8, col l2 a9, col l3 a10⟩
theorem CI_Gr {h h' : HP} (gr : Gr h h') {A : AST} (g : Good A) (c : CI h A) : CI h' A ∧ FC h h' := by
  have l := Str_len c.1
  obtain ⟨c1, c2, c3, c4, c5, c6, c7⟩ := c
  have fr : Fr (fun q => 139 ≤ q) (fun q => 139 ≤ q) h (h.1, h.2.1, h'.2.2.1, h'.2.2.2) := ⟨rfl, rfl, fun b hb i => (gr.2 b (by omega)).2.1 i, fun b hb i => (gr.2 b (by omega)).2.2 i⟩
  refine ⟨⟨⟨?_, fun e he => ?_⟩, TC_Gr gr l c2, RG_fr fr (show ¬ 139 ≤ 6 by omega) (show ¬ 139 ≤ 7 by omega) (show ¬ 139 ≤ 8 by omega) (show ¬ 139 ≤ 9 by omega) c3, CU_fr fr (fun R e => g.um e) (fun q a b (z : 139 ≤ q) => by omega) (fun q a b (z : 139 ≤ q) => by omega) c4, CM_fr fr (fun q a b (z : 139 ≤ q) => by omega) (fun q a b (z : 139 ≤ q) => by omega) c5, CS_fr fr (fun q a b (z : 139 ≤ q) => by omega) c6, by rw [(gr.2 0 (by omega)).2.1]; exact c7⟩, fun b i a1 a2 => ⟨(gr.2 b (by omega)).2.1 i, (gr.2 b (by omega)).2.2 i⟩⟩
  · obtain ⟨⟨tl, e⟩, -⟩ := c1
    obtain ⟨⟨tl2, e2⟩, -⟩ := gr
    exact ⟨tl ++ tl2, by rw [e2, e, List.append_assoc]⟩
  · have h139 : ∀ e ∈ RT, e.1 < 139 := by decide +kernel
    rw [(gr.2 e.1 (by have := h139 e he; omega)).1]
    exact c1.2 e he
/-- the table at T becomes the newest -/
theorem CI_take {h : HP} {A : AST} (g : Good A) (c : CI h A) {n T : Nat} {row : Nat → Int32} (hT : 139 ≤ T) (k6 : kd h T = 6) (r0 : hR h T 0 = some (T + 1)) (r1 : hR h T 1 = some (T + 2)) (r2 : hR h T 2 = some (T + 3)) (hn : hI h T 3 = nI n) (k1 : COL h (T + 1) n (rwF row)) (k2 : COL h (T + 2) n (rwO row)) (k3 : COL h (T + 3) n (rwW row)) : CI (sI (sR h 3 (tnp (aT A)) (some T)) 2 3 (nI (tnp (aT A) + 1))) (wT A (addT (aT A) n row)) ∧ FC h (sI (sR h 3 (tnp (aT A)) (some T)) 2 3 (nI (tnp (aT A) + 1))) := by
  obtain ⟨c1, c2, c3, c4, c5, c6, c7⟩ := c
  have fr : Fr (fun q => q = 2) (fun _ => False) h (sI h 2 3 (nI (tnp (aT A) + 1))) := Fr.sI' Fr.rfl' rfl
  have hne : ∀ e ∈ RT, e.1 ≠ 3 := by decide +kernel
  have hx : ∀ b, b ≠ 2 → ∀ i, hI (sI (sR h 3 (tnp (aT A)) (some T)) 2 3 (nI (tnp (aT A) + 1))) b i = hI h b i := fun b hb i => by rw [hI_sI, if_neg hb, hI_sR]
  have hr : ∀ b, b ≠ 3 → ∀ i, hR (sI (sR h 3 (tnp (aT A)) (some T)) 2 3 (nI (tnp (aT A) + 1))) b i = hR h b i := fun b hb i => by rw [hR_sI, hR_sR, if_neg hb]
  have col : ∀ {b n : Nat} {f : Nat → Int}, b ≠ 2 → COL h b n f → COL (sI (sR h 3 (tnp (aT A)) (some T)) 2 3 (nI (tnp (aT A) + 1))) b n f := fun hb q => ⟨q.1, q.2.1, fun i hi => by rw [hx _ hb]; exact q.2.2 i hi⟩
  refine ⟨⟨⟨c1.1, fun e he => ?_⟩, ⟨?_, fun p hp => ?_⟩, RG_fr fr (show ¬ 6 = 2 by omega) (show ¬ 7 = 2 by omega) (show ¬ 8 = 2 by omega) (show ¬ 9 = 2 by omega) c3, CU_fr fr (fun R e => g.um e) (fun q a b (z : q = 2) => by omega) (fun q a b => id) c4, CM_fr fr (fun q a b (z : q = 2) => by omega) (fun q a b => id) c5, CS_fr fr (fun q a b (z : q = 2) => by omega) c6, by rw [hx 0 (by omega)]; exact c7⟩, fun b i a1 a2 => ⟨hx b (by omega) i, rfl⟩⟩
  · rw [hr _ (hne e he)]
    exact c1.2 e he
  · rw [hI_sI, if_pos rfl, if_pos rfl]
    rfl
  · have hp' : p < tnp (aT A) + 1 := hp
    rcases Nat.lt_or_ge p (tnp (aT A)) with q | q
    · obtain ⟨T', a1, a2, a3, a4, a5, a6, a7, a8, a9, a10⟩ := c2.2 p q
      obtain ⟨e1, e2, e3, e4⟩ := addT_old (n := n) (row := row) q
      refine ⟨T', ?_⟩
      unfold TCp
      show hR _ 3 p = some T' ∧ 139 ≤ T' ∧ kd _ T' = 6 ∧ hR _ T' 0 = _ ∧ hR _ T' 1 = _ ∧ hR _ T' 2 = _ ∧ hI _ T' 3 = nI (tpt (addT (aT A) n row) p) ∧ COL _ (T' + 1) (tpt (addT (aT A) n row) p) (tF (addT (aT A) n row) p) ∧ COL _ (T' + 2) (tpt (addT (aT A) n row) p) (tO (addT (aT A) n row) p) ∧ COL _ (T' + 3) (tpt (addT (aT A) n row) p) (tW (addT (aT A) n row) p)
      rw [e1, e2, e3, e4]
      exact ⟨by rw [hR_sI, hR_sR, if_pos rfl, if_neg (by omega)]; exact a1, a2, a3, by rw [hr _ (by omega)]; exact a4, by rw [hr _ (by omega)]; exact a5, by rw [hr _ (by omega)]; exact a6, by rw [hx _ (by omega)]; exact a7, col (by omega) a8, col (by omega) a9, col (by omega) a10⟩
    · have e : p = tnp (aT A) := by omega
      subst e
      obtain ⟨e1, e2, e3, e4⟩ := addT_new (t := aT A) (n := n) (row := row)
      refine ⟨T, ?_⟩
      unfold TCp
      show hR _ 3 _ = some T ∧ 139 ≤ T ∧ kd _ T = 6 ∧ hR _ T 0 = _ ∧ hR _ T 1 = _ ∧ hR _ T 2 = _ ∧ hI _ T 3 = nI (tpt (addT (aT A) n row) (tnp (aT A))) ∧ COL _ (T + 1) (tpt (addT (aT A) n row) (tnp (aT A))) (tF (addT (aT A) n row) (tnp (aT A))) ∧ COL _ (T + 2) (tpt (addT (aT A) n row) (tnp (aT A))) (tO (addT (aT A) n row) (tnp (aT A))) ∧ COL _ (T + 3) (tpt (addT (aT A) n row) (tnp (aT A))) (tW (addT (aT A) n row) (tnp (aT A)))
      rw [e1, e2, e3, e4]
      exact ⟨by rw [hR_sI, hR_sR, if_pos rfl, if_pos rfl], hT, k6, by rw [hr _ (by omega)]; exact r0, by rw [hr _ (by omega)]; exact r1, by rw [hr _ (by omega)]; exact r2, by rw [hx _ (by omega)]; exact hn, col (by omega) k1, col (by omega) k2, col (by omega) k3⟩
