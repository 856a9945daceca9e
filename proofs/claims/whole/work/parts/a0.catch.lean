section CATCH
variable {G : GX} {j : MX} {pc : Nat} {ls : mL} {st : List Value} {h : mH} {Q : mO → mH → Prop}
/-- at pc an exception E is caught, and the method answers K -/
def Hd (j : MX) (pc : Nat) (E : String) (K : Int32) : Prop := ∃ (pre : List ClassFile.ExceptionTableEntry) (x : ClassFile.ExceptionTableEntry) (rest : List ClassFile.ExceptionTableEntry) (i len : Nat),
  tableOf (jT j) = pre ++ x :: rest ∧ covers x pc = true ∧ x.catchType ≠ 0 ∧ Cond.classLink (jY j).cls x.catchType E ∈ gT ∧
  (pre = [] ∨ (E = eI ∧ ∃ y, pre = [y] ∧ y.catchType ≠ 0 ∧ Cond.classLink (jY j).cls y.catchType eN ∈ gT)) ∧
  ((decode (jC j) x.handlerPc = .ok (.astore i, len) ∧ len = 2) ∨ ∃ f : Fin 4, i = (f : Nat) ∧ decode (jC j) x.handlerPc = .ok (.astore_n f, len) ∧ len = 1) ∧ i < jL j ∧
  ∀ (G : GX) (h : mH) (Q : mO → mH → Prop), Q (.inl (some (.int K))) h → Vw G j (x.handlerPc + len) [] [] h Q
/-- behind a call in a method that catches -/
def AftH (G : GX) (j : MX) (pc : Nat) (ls : mL) (st : List Value) (Q : mO → mH → Prop) : mO → mH → Prop := fun o h => match o with
  | .inl v => Vw G j (pc + 3) ls (v.toList ++ st) h Q
  | .inr E => ∃ K, Hd j pc E K ∧ Q (.inl (some (.int K))) h
theorem mLs_nil {nL : Nat} {la : Array Slot} {L : List (Nat × Value)} (hl : lv_has la nL L) : mLs G nL [] la := ⟨hl.1, hl.2.1, fun i v hi => by simp at hi⟩
theorem asg_self (vm : Vm) (c : ClassId) : vm.assignable c c = true := Vm.assignable_self vm c
theorem cNot_at {s : State} {args : Array Value} (h : gCast s) : cNot.before args s = true := by
  have h1 : cNot.before #[] s = true := h
  exact h1
theorem Vw.callH {a : List Value} {stk : List Value} (hL : ls.length ≤ jL j) (run : ∀ (p : Program) (e : Env) (s : State) (m : MethodId) (args : Array Value) (below : List Frame) (meth : Method) (c : Code) (h0 : mH) (H : Heap) (locs : List Loc) (la : Array Slot), Fr G j h0 p s m args meth c → va_S (gA G) s.heap H locs → Pic G h H → Ext h0 h → la.size = jL j →
    (h.1.length - h0.1.length) + (NC - h.1.length) ≤ NC - h0.1.length → (sl h - sl h0) + (NS - sl h) ≤ NS - sl h0 → (∀ U : State, U.heap = H → s.WarmedH U.vm → gW G U) →
    vx_Run p (gL G) e (jRm j h0) s m args below meth c H locs (h.1.length - h0.1.length) (sl h - sl h0) (NC - h.1.length) (NS - sl h) (F0 m pc la (stk.map (rv G))) (st.map (rv G)) (qR G h (AftH G j pc ls st Q) (a.map (rv G)).toArray) (qX G h (AftH G j pc ls st Q)) (gA G)) : Vw G j pc ls stk h Q := by
  intro p e s m args below meth c h0 H locs la F hS hP hE hl
  obtain ⟨r, hr⟩ := id hE
  have hlen : h.1.length = h0.1.length + r.length := by rw [hr, List.length_append]
  have hsum : sl h = sl h0 + (r.map Prod.snd).sum := by unfold sl; rw [hr, List.map_append, List.sum_append]
  have b1 := hP.2.1
  have b2 := hP.2.2.1
  have hsz : gZ G ≤ s.heap.size := by rw [F.2.2.2.2.2.2.2.2.1.1]; omega
  have hold : ∀ q, q < gZ G → H[q]? = s.heap[q]? := fun q hq => hS.2.1 q (by omega) (fun z => absurd z (Nat.not_le.mpr hq))
  have R0 := run p e s m args below meth c h0 H locs la F hS hP hE hl.1 (by omega) (by omega) (fun U hU hW => F.2.2.2.2.2.2.2.1.move hW hsz (fun q hq => by rw [hU]; exact hold q hq))
  intro T hT X
  have put : ∀ (st₀ t T' : State) (L : List Loc) (h' : mH), st₀.heap = H → (∀ q ∈ L, gA G q.base) → T'.heap = t.heap → Pic G h' t.heap → Ext h h' → (∀ q, q < gZ G → t.heap[q]? = st₀.heap[q]?) → va_S (gA G) s.heap T'.heap (locs ++ L) := by
    intro st₀ t T' L h' k0 kL k1 kP kE kO
    refine ⟨?_, fun q h1 h2 => ?_, fun z hz => ?_⟩
    · obtain ⟨r', hr'⟩ := kE
      have : h'.1.length = h.1.length + r'.length := by rw [hr', List.length_append]
      rw [k1, kP.1, F.2.2.2.2.2.2.2.2.1.1]; omega
    · have hq : q < gZ G := Nat.not_le.mp h2
      rw [k1, kO q hq, k0]; exact hold q hq
    · rcases List.mem_append.mp hz with q | q
      · exact hS.2.2 z q
      · exact kL z q
  rcases R0 T hT X with ⟨v, st₀, t, T', L, k0, X', kL, k1, k2, ⟨w, h', c1, c2, c3, c4, c5⟩, go⟩ | ⟨q, st₀, t, T', L, E, ce, k0, X', kL, k1, k2, ⟨h', c2, c3, c4, c5⟩, hce, hcv, hcl, go⟩
  · cases c1
    have X2 := tight (G := G) X' F.2.2.2.2.2.2.2.2.1 (by rw [k1]; exact c3) (hE.trans c4)
    obtain ⟨t2, a1, b1⟩ := c2 p e s m args below meth c h0 T'.heap (locs ++ L) la F (put st₀ t T' L h' k0 kL k1 c3 c4 c5) (by rw [k1]; exact c3) (hE.trans c4) hl T' rfl X2
    refine ⟨t2, go t2 ?_, b1⟩
    have he : (Option.map (rv G) w).toList ++ st.map (rv G) = (w.toList ++ st).map (rv G) := by cases w <;> rfl
    show Steps _ _ _ (T'.setTop (F0 m (pc + 3) la ((Option.map (rv G) w).toList ++ st.map (rv G)))) t2
    rw [he]
    exact a1
  · have X2 := tight (G := G) X' F.2.2.2.2.2.2.2.2.1 (by rw [k1]; exact c3) (hE.trans c4)
    have hS' := put st₀ t T' L h' k0 kL k1 c3 c4 c5
    obtain ⟨K, ⟨pre, x, rest, i, len, t1, t2, t3, t4, t5, t6, t7, t8⟩, qk⟩ := c2
    have hown : s.vm.findClass (jY j).cls = some m.cls := F.2.2.2.2.2.1
    have hts := F.2.2.2.2.2.2.1
    have hsplit : c.exceptionTable.toList = pre ++ x :: rest := by rw [F.2.2.2.2.2.2.2.2.2.2]; exact t1
    obtain ⟨hend, hk0⟩ := X2.catches_of_link hown t3 (hts _ t4) hcl (asg_self _ _)
    have hpl : e.platform.magicAccessors = ({} : Platform).magicAccessors := by rw [X2.admits.platform]
    have hpass : ∀ y ∈ pre, RowPassed e.platform s m.cls pc ce.cls y := by
      rcases t5 with e0 | ⟨e1, y, e2, y0, y1⟩
      · rw [e0]
        intro y hy
        cases hy
      · rw [e2]
        intro z hz
        have : z = y := by simpa using hz
        subst this
        have hcl' : s.vm.findClass eI = some ce.cls := by rw [← e1]; exact hcl
        exact RowPassed.of_words hpl hown y0 (hts _ y1) hcl' (cNot_at F.2.2.2.2.2.2.2.1.2.2.2.2.2.2.2.2.2.2)
    obtain ⟨vm', XV, stp⟩ := X2.thenCaughtThrough q (g := F0 m pc la (st.map (rv G))) rfl go (by rw [k1]; exact hce) (by rw [hcv]; rfl) hk0 pre x rest hsplit hpass t2 hend
    have wk : ∀ la2 : Array Slot, mLs G (jL j) [] la2 → W p (gL G) e (jRm j h0) s m args below meth c T'.heap (locs ++ L) (h'.1.length - h0.1.length) (sl h' - sl h0) (vx_MQ below (qR G h0 Q) (qX G h0 Q) args s (NC - h0.1.length) (NS - sl h0) (gA G)) (F0 m (x.handlerPc + len) la2 (([] : List Value).map (rv G))) := fun la2 hl2 =>
      t8 G h' Q qk p e s m args below meth c h0 T'.heap (locs ++ L) la2 F hS' (by rw [k1]; exact c3) (hE.trans c4) hl2
    have wa : W p (gL G) e (jRm j h0) s m args below meth c T'.heap (locs ++ L) (h'.1.length - h0.1.length) (sl h' - sl h0) (vx_MQ below (qR G h0 Q) (qX G h0 Q) args s (NC - h0.1.length) (NS - sl h0) (gA G)) (F0 m x.handlerPc la [.ref q]) := by
      rcases t6 with ⟨d1, rfl⟩ | ⟨f, rfl, d1, rfl⟩
      · exact lv_astore F.1 F.2.1 d1 hl.has t7 rfl (fun la2 hl2 => wk la2 (mLs_nil hl2))
      · exact lv_astore_n F.1 F.2.1 d1 rfl hl.has t7 rfl (fun la2 hl2 => wk la2 (mLs_nil hl2))
    obtain ⟨t2', a1, b1⟩ := wa (T'.setVm vm') rfl XV
    exact ⟨t2', stp.trans a1, b1⟩
/-- an instance's method, called in a method that catches -/
theorem s_callVH {i n o c nn : Nat} {j' : MX} {As : List Value} (hL : ls.length ≤ jL j) (hd : decode (jC j) pc = .ok (.invokevirtual i, 3)) (hl : kLV (jY j).cls i j' n) (hF : Fits j j') (ho : h.1[o]? = some (c, nn)) (hc : ∃ T N, c < 11 ∧ mCl[c]? = some ((jY j').cls, T, N)) (hn : As.length = n) (hst : (st.map Value.category).sum ≤ 8)
    (k : WM G j' (.ref o :: As) h (AftH G j pc ls st Q)) : Vw G j pc ls (As.reverse ++ .ref o :: st) h Q := by
  refine Vw.callH (a := .ref o :: As) (st := st) hL ?_
  intro p e s m args below meth c' h0 H locs la F hS hP hE hla b1 b2 hg
  obtain ⟨hB, h1, h2, h3⟩ := hl
  have hts := F.2.2.2.2.2.2.1
  obtain ⟨T, N, hc1, hc2⟩ := hc
  obtain ⟨ce, q1, q2, q3, q4, -⟩ := hP.2.2.2 o c nn ho
  have hfc := (F.2.2.2.2.2.2.2.1.1.1 c _ hc2).2.1
  have := vx_runV (n := n) (rest := st.map (rv G)) (b := gZ G + o) (As := As.map (rv G)) (H := H) (p := p) (e := e) (below := below) (meth := meth) (locs := locs) (cells := h.1.length - h0.1.length) (slots := sl h - sl h0) (g := F0 m pc la ((As.reverse ++ .ref o :: st).map (rv G))) (C := (jY j').cls) (R := jRm j h0) ⟨F.1, F.2.1, F.2.2.1, F.2.2.2.2.2.1, hts⟩ k ⟨callB (h := h) hts hB h1 hF, hts _ h2, hts _ h3⟩
    ⟨blind, ⟨ce, q1, by rw [q3 (by omega)]; rfl, by rw [(q4 hc1).1]; exact hfc⟩, fun U hU hW => ⟨rfl, hg U hU hW, by rw [hU]; exact hP⟩⟩ rfl (by rw [List.length_map]; exact hn) hla (by simp [rv]) (rest_room hst) hd ⟨b1, b2⟩
  exact this
/-- a method with a table by its body -/
theorem WM.bodyH {a : List Value} (hK : jK j = Cond.codeWith (jY j) (jC j) (jL j) (jR j) (jT j)) (hy : plainName (jY j).cls = true) (hc : a.all cat1 = true) (hn : a.length ≤ jL j) (hls : ls = a.map some ++ List.replicate (jL j - a.length) none) (k : Vw G j 0 ls [] h Q) : WM G j a h Q := by
  have hw : jWs j = Cond.codeWith (jY j) (jC j) (jL j) (jR j) (jT j) :: gT := by unfold jWs; rw [hK]
  refine vx_ofWH (cc := jC j) (maxL := jL j) (ret := jR j) (hh := jT j) hy hw ?_
  intro p e s m args below meth c s₁ B hml hv
  obtain ⟨rfl, hg, hP⟩ := hv
  have hts : ∀ w ∈ gT, w.before _ s = true := fun w hw2 => atoms_spec (ws := jWs j) B.pre w (by rw [hw]; exact List.mem_cons_of_mem _ hw2)
  have hF : Fr G j h p s m (a.map (rv G)).toArray meth c := ⟨B.exec, B.bytes, hml, B.returns, B.notSynchronized, findClass_of_methodNamed B.named, hts, hg, hP, (name_of_methodNamed B.named B.method).1, vx_table (x := jY j) B (atoms_spec (ws := jWs j) B.pre _ (by rw [hw]; exact List.mem_cons_self))⟩
  have hc1 : ∀ v ∈ a.map (rv G), v.category = 1 := by
    intro v hv
    obtain ⟨w, hw2, rfl⟩ := List.mem_map.mp hv
    exact cat1_rv (List.all_eq_true.mp hc w hw2)
  have hl := lv_entry (a.map (rv G)) (n := jL j) (by rw [lg_sl_len _ hc1, List.length_map]; exact hn)
  rw [lg_entry_eq]
  have hls2 : mLs G (jL j) ls ((lg_sl (a.map (rv G)) ++ List.replicate (jL j - (lg_sl (a.map (rv G))).length) Slot.unset).toArray) := by
    refine ⟨hl.1, hl.2.1, fun i v hi => ?_⟩
    rw [hls] at hi
    by_cases hi2 : i < a.length
    · rw [List.getElem?_append_left (by simpa using hi2), List.getElem?_map] at hi
      cases ha : a[i]? with
      | none => rw [ha] at hi; cases hi
      | some w =>
        rw [ha] at hi
        cases hi
        have := lv_args_cat1 (a.map (rv G)) 0 i (rv G v) hc1 (by rw [List.getElem?_map, ha]; rfl)
        have h3 := hl.2.2 _ this
        simpa using h3
    · rw [List.getElem?_append_right (by simpa using hi2)] at hi
      have := List.mem_of_getElem? hi
      have := (List.mem_replicate.mp this).2
      cases this
  have := k p e s m _ below meth c h s.heap [] _ hF va_S.rf hP ⟨[], by simp⟩ hls2
  simp only [Nat.sub_self] at this
  exact this
def kLH (own : String) (i : Nat) (j' : MX) (n : Nat) : Prop := jK j' = Cond.codeWith (jY j') (jC j') (jL j') (jR j') (jT j') ∧ jK j' ∈ gT ∧ Cond.initialized (jY j').cls ∈ gT ∧ ((jY j').cls ≠ "java/lang/invoke/MethodHandle" ∧ (jY j').cls ≠ "java/lang/invoke/VarHandle") ∧ (parseMethodDescriptor (jY j').desc).map (fun d => d.parameters.length) = some n ∧ Cond.methodLink own i (jY j') ∈ gT ∧ Cond.static (jY j') ∈ gT
/-- a static method with a table of its own -/
theorem s_callSH {i n : Nat} {j' : MX} {As : List Value} (hd : decode (jC j) pc = .ok (.invokestatic i, 3)) (hout : jT j = []) (hl : kLH (jY j).cls i j' n) (hF : Fits j j') (hn : As.length = n) (hst : (st.map Value.category).sum ≤ 8)
    (k : WM G j' As h (Aft G j pc ls st Q)) : Vw G j pc ls (As.reverse ++ st) h Q := by
  refine Vw.call (a := As) (st := st) hout ?_
  intro p e s m args below meth c' h0 H locs la F hS hP hE hla b1 b2 hg
  obtain ⟨l1, l2, l3, l4, l5, l6, l7⟩ := hl
  have hts := F.2.2.2.2.2.2.1
  have hw : jWs j' = Cond.codeWith (jY j') (jC j') (jL j') (jR j') (jT j') :: gT := by unfold jWs; rw [l1]
  have cw : vx_CSW (jRm j h0) s args (jY j).cls i (jY j') (jC j') (jL j') (jR j') (jT j') (jWs j') (jRm j' h) (NC - h.1.length) (NS - sl h) n := by
    refine ⟨⟨rfl, rfl, hF.1, hF.2, fun w hw2 a' U hW => ?_, by rw [hw]; exact List.mem_cons_self⟩, by rw [← l1]; exact hts _ l2, hts _ l3, l4, fun sig hs => ?_, hts _ l6, hts _ l7⟩
    · rw [hw] at hw2
      rcases List.mem_cons.mp hw2 with e | e
      · rw [e, ← l1]; exact gT_warm hW l2 (hts _ l2)
      · exact gT_warm hW e (hts _ e)
    · rw [hs] at l5
      exact (Option.some.inj l5).symm
  have := vx_runSX (n := n) (rest := st.map (rv G)) (As := As.map (rv G)) (H := H) (p := p) (e := e) (below := below) (meth := meth) (locs := locs) (cells := h.1.length - h0.1.length) (slots := sl h - sl h0) (g := F0 m pc la ((As.reverse ++ st).map (rv G))) (R := jRm j h0) ⟨F.1, F.2.1, F.2.2.1, F.2.2.2.2.2.1, hts⟩ k cw
    ⟨blind, fun U hU hW => ⟨rfl, hg U hU hW, by rw [hU]; exact hP⟩⟩ rfl (by rw [List.length_map]; exact hn) hla (by simp) (rest_room hst) hd ⟨b1, b2⟩
  exact this
end CATCH
