section CALLS
variable {G : GX} {j : MX} {pc : Nat} {ls : mL} {st : List Value} {h : mH} {Q : mO → mH → Prop}
theorem lv_args_cat1 : ∀ (a : List Value) (k i : Nat) (v : Value), (∀ v ∈ a, v.category = 1) → a[i]? = some v → (k + i, v) ∈ lv_args k a := by
  intro a
  induction a with
  | nil => intro k i v _ h; simp at h
  | cons x a ih =>
    intro k i v hc h
    have hx : x.category = 1 := hc x List.mem_cons_self
    cases i with
    | zero =>
      simp at h
      subst h
      exact List.mem_cons_self
    | succ i =>
      simp at h
      have := ih (k + 1) i v (fun v hv => hc v (List.mem_cons_of_mem _ hv)) h
      unfold lv_args
      rw [hx]
      rw [show k + (i + 1) = k + 1 + i by omega]
      exact List.mem_cons_of_mem _ this
theorem lg_sl_len : ∀ (a : List Value), (∀ v ∈ a, v.category = 1) → (lg_sl a).length = a.length := by
  intro a
  induction a with
  | nil => intro _; rfl
  | cons x a ih =>
    intro hc
    have hx : x.category = 1 := hc x List.mem_cons_self
    have := ih (fun v hv => hc v (List.mem_cons_of_mem _ hv))
    unfold lg_sl at this ⊢
    simp [List.flatMap_cons, hx, this]
def cat1 (v : Value) : Bool := match v with
  | .long _ => false
  | .double _ => false
  | _ => true
theorem cat1_rv {v : Value} (h : cat1 v = true) : (rv G v).category = 1 := by cases v <;> first | rfl | cases h
theorem ofWF {l : Launch} {y : MethodName} {ws ws' : List Cond} {rm : Room} {Pc : Array Value → State → Prop} {Qc : Array Value → State → Outcome → State → Prop} {XC : String → State → State → Prop} {mc ms : Nat} {free : Addr → Prop} {cc : ByteArray} {maxL : Nat} {ret : Option FieldType}
    (hy : plainFor y = true) (hw : ws = Cond.code y cc maxL ret :: ws')
    (body : ∀ p e s m args below meth c s₁, BodyLoose p l y (headSpec ws rm) cc maxL ret e s m args below meth c s₁ → c.maxLocals = maxL → (∀ x ∈ c.exceptionTable.toList, False) → Pc args s →
      W p l e (headSpec ws rm).room s m args below meth c s.heap [] 0 0 (vx_MQ below Qc XC args s mc ms free) (entryFrame m args maxL)) : vx_Met l y ws rm Pc Qc XC mc ms free := by
  refine MetFree.of_bodySF (code := cc) (maxLocals := maxL) (ret := ret) hy ?_ ?_
  · intro args s m h hn
    obtain ⟨meth, c, h1, h2, h3, h4, h5, h6, -, -⟩ := Cond.code_spec hn (atoms_spec (ws := ws) h _ (by rw [hw]; exact List.mem_cons_self))
    exact ⟨meth, c, h1, h2, h3, h4, h5, h6⟩
  · intro p e s m args below meth c s₁ B hml hP _
    have hh0 : s₁.heap = s.heap := by rw [B.state]; rfl
    have ht : ∀ x ∈ c.exceptionTable.toList, False := by
      obtain ⟨meth9, c9, h1, h2, -, -, -, -, h7, -⟩ := Cond.code_spec B.named (atoms_spec (ws := ws) B.pre _ (by rw [hw]; exact List.mem_cons_self))
      cases Option.some.inj (h1.symm.trans B.method)
      cases Option.some.inj (h2.symm.trans (Stand.of_body B).code)
      intro x hx
      rw [Array.isEmpty_iff.mp h7] at hx
      cases hx
    obtain ⟨t, a1, o, b1, b2, b3⟩ := body p e s m args below meth c s₁ B hml ht hP s₁ hh0 (Stand.of_body B)
    exact ⟨t, o, a1, b1, b2, b3⟩
/-- a method by its body -/
theorem WM.body {a : List Value} (hT : jT j = []) (hy : plainFor (jY j) = true) (hc : a.all cat1 = true) (hn : a.length ≤ jL j) (hls : ls = a.map some ++ List.replicate (jL j - a.length) none) (k : Vw G j 0 ls [] h Q) : WM G j a h Q := by
  have hw : jWs j = Cond.code (jY j) (jC j) (jL j) (jR j) :: gT := by unfold jWs jK; rw [hT]
  refine ofWF (cc := jC j) (maxL := jL j) (ret := jR j) hy hw ?_
  intro p e s m args below meth c s₁ B hml ht hv
  obtain ⟨rfl, hg, hP⟩ := hv
  have hts : ∀ w ∈ gT, w.before _ s = true := fun w hw2 => atoms_spec (ws := jWs j) B.pre w (by rw [hw]; exact List.mem_cons_of_mem _ hw2)
  have hF : Fr G j h p s m (a.map (rv G)).toArray meth c := ⟨B.exec, B.bytes, hml, B.returns, B.notSynchronized, findClass_of_methodNamed B.named, hts, hg, hP, (name_of_methodNamed B.named B.method).1, by
    rw [hT]
    cases h9 : c.exceptionTable.toList with
    | nil => rfl
    | cons x l => exact (ht x (by rw [h9]; exact List.mem_cons_self)).elim⟩
  have hc1 : ∀ v ∈ a.map (rv G), v.category = 1 := by
    intro v hv
    obtain ⟨w, hw2, rfl⟩ := List.mem_map.mp hv
    exact cat1_rv (List.all_eq_true.mp hc w hw2)
  have hl := lv_entry (a.map (rv G)) (n := jL j) (by rw [lg_sl_len _ hc1, List.length_map]; exact hn)
  rw [lg_entry_eq]
  have hls2 : mLs G (jL j) ls ((lg_sl (a.map (rv G)) ++ List.replicate (jL j - (lg_sl (a.map (rv G))).length) Slot.unset).toArray) := by
    refine ⟨hl.1, hl.2.1, fun i v hi => ?_⟩
    rw [hls] at hi
    by_cases hi2 : i < a.length
    · rw [List.getElem?_append_left (by simpa using hi2), List.getElem?_map] at hi
      cases ha : a[i]? with
      | none => rw [ha] at hi; cases hi
      | some w =>
        rw [ha] at hi
        cases hi
        have := lv_args_cat1 (a.map (rv G)) 0 i (rv G v) hc1 (by rw [List.getElem?_map, ha]; rfl)
        have h3 := hl.2.2 _ this
        simpa using h3
    · rw [List.getElem?_append_right (by simpa using hi2)] at hi
      have := List.mem_of_getElem? hi
      have := (List.mem_replicate.mp this).2
      cases this
  have := k p e s m _ below meth c h s.heap [] _ hF va_S.rf hP ⟨[], by simp⟩ hls2
  simp only [Nat.sub_self] at this
  exact this
theorem WM.mono {a : List Value} {Q' : mO → mH → Prop} (hq : ∀ o h, Q o h → Q' o h) (k : WM G j a h Q) : WM G j a h Q' := by
  intro p e h1 h2 h3 s m args below h4 h5 h6 h7
  obtain ⟨n, o, a1, a2, a3, a4⟩ := k p e h1 h2 h3 s m args below h4 h5 h6 h7
  refine ⟨n, o, a1, a2, a3, ?_⟩
  rcases a4 with ⟨⟨v, h', c1, c2, c3⟩, b4⟩ | ⟨q, c0, E, ce, L, ⟨h', c2, c3⟩, b4⟩
  · exact Or.inl ⟨⟨v, h', c1, hq _ _ c2, c3⟩, b4⟩
  · exact Or.inr ⟨q, c0, E, ce, L, ⟨h', hq _ _ c2, c3⟩, b4⟩
/-- what was made is counted exactly -/
theorem tight {p : Program} {l : Launch} {e : Env} {R : Room} {s T : State} {m : MethodId} {args : Array Value} {below : List Frame} {meth : Method} {c : Code} {locs : List Loc} {k n : Nat} {h0 h : mH} (X : Stand p l e R s m args below meth c T locs k n) (h1 : Pic G h0 s.heap) (h2 : Pic G h T.heap) (hE : Ext h0 h) : Stand p l e R s m args below meth c T locs (h.1.length - h0.1.length) (sl h - sl h0) := by
  obtain ⟨r, hr⟩ := hE
  obtain ⟨e1, e2, e3, e4, e5, e6⟩ := X.same
  have hlen : h.1.length = h0.1.length + r.length := by rw [hr, List.length_append]
  have hsum : sl h = sl h0 + (r.map Prod.snd).sum := by unfold sl; rw [hr, List.map_append, List.sum_append]
  have hl : ((T.setVm s.vm).heap.toList.drop s.heap.size).map (fun x : Cell => x.slots.size) = r.map Prod.snd := by
    apply List.ext_getElem?
    intro i
    rw [List.getElem?_map, List.getElem?_map, List.getElem?_drop]
    show Option.map _ (T.heap.toList[s.heap.size + i]?) = _
    rw [Array.getElem?_toList, h1.1]
    cases hi : r[i]? with
    | none =>
      have : r.length ≤ i := by simpa using hi
      have hz : T.heap.size ≤ gZ G + h0.1.length + i := by rw [h2.1, hlen]; omega
      rw [Array.getElem?_eq_none hz]
      rfl
    | some q =>
      obtain ⟨c9, n9⟩ := q
      have : h.1[h0.1.length + i]? = some (c9, n9) := by rw [hr, List.getElem?_append_right (by omega)]; simpa using hi
      obtain ⟨ce, g1, g2⟩ := h2.2.2.2 _ c9 n9 this
      rw [Nat.add_assoc, g1]
      show some ce.slots.size = some n9
      rw [g2.1]
  exact { X with same := ⟨e1, e2, by
    show T.heap.size ≤ _
    rw [h2.1, h1.1]; omega, e4, by rw [hl]; omega, e6⟩ }
theorem Ext.trans {a b c : mH} (h1 : Ext a b) (h2 : Ext b c) : Ext a c := by
  obtain ⟨r, hr⟩ := h1
  obtain ⟨q, hq⟩ := h2
  exact ⟨r ++ q, by rw [hq, hr, List.append_assoc]⟩
/-- what a call of j' wants of the tables -/
def kLB (own : String) (i : Nat) (j' : MX) (n : Nat) : Prop := jT j' = [] ∧ jK j' ∈ gT ∧ Cond.initialized (jY j').cls ∈ gT ∧ ((jY j').cls ≠ "java/lang/invoke/MethodHandle" ∧ (jY j').cls ≠ "java/lang/invoke/VarHandle") ∧ (parseMethodDescriptor (jY j').desc).map (fun d => d.parameters.length) = some n
def kLV (own : String) (i : Nat) (j' : MX) (n : Nat) : Prop := kLB own i j' n ∧ Cond.methodLink own i (jY j') ∈ gT ∧ Cond.instanceMethod (jY j') ∈ gT ∧ Cond.selects (jY j').cls (jY j') (jY j') ∈ gT
def kLS (own : String) (i : Nat) (j' : MX) (n : Nat) : Prop := kLB own i j' n ∧ Cond.methodLink own i (jY j') ∈ gT ∧ Cond.static (jY j') ∈ gT
def Fits (j j' : MX) : Prop := jF j' + 1 ≤ jF j ∧ 8 + (jL j' + 11) + jW j' ≤ jW j
/-- behind a call: where it came back, and where it threw -/
def Aft (G : GX) (j : MX) (pc : Nat) (ls : mL) (st : List Value) (Q : mO → mH → Prop) : mO → mH → Prop := fun o h => match o with
  | .inl v => Vw G j (pc + 3) ls (v.toList ++ st) h Q
  | .inr E => Q (.inr E) h
theorem gT_warm {s U : State} {args a' : Array Value} {w : Cond} (hW : s.WarmedH U.vm) (hw : w ∈ gT) (h : w.before args s = true) : w.before a' U = true := word_at hW (good_of_word (gT_good hw)) h
theorem callB {R : Room} {s : State} {args : Array Value} {own : String} {i n : Nat} {j' : MX} (hts : ∀ w ∈ gT, w.before args s = true) (hl : kLB own i j' n) (hlk : Cond.methodLink own i (jY j') ∈ gT) (hR : jF j' + 1 ≤ R.frames ∧ 8 + (jL j' + 11) + jW j' ≤ R.locals) : CallB R s args own i (jY j') (jC j') (jL j') (jR j') (jWs j') (jRm j' h) (NC - h.1.length) (NS - sl h) n := by
  obtain ⟨l1, l2, l3, l4, l5⟩ := hl
  have hk : jK j' = Cond.code (jY j') (jC j') (jL j') (jR j') := by unfold jK; rw [l1]
  refine ⟨rfl, rfl, hR.1, hR.2, fun w hw a' U hW => ?_, by unfold jWs; rw [hk]; exact List.mem_cons_self, by rw [← hk]; exact hts _ l2, hts _ l3, l4, fun sig hs => ?_, hts _ hlk⟩
  · rcases List.mem_cons.mp hw with e | e
    · rw [e]; exact gT_warm hW l2 (hts _ l2)
    · exact gT_warm hW e (hts _ e)
  · rw [hs] at l5
    exact (Option.some.inj l5).symm
theorem blind {a : List Value} : FrameBlind (fun v U => v = (a.map (rv G)).toArray ∧ gW G U ∧ Pic G h U.heap) := fun a' U g mk hp => ⟨hp.1, hp.2.1.move (State.WarmedH.refl _) (by rw [hp.2.2.1]; omega) (fun _ _ => rfl), hp.2.2⟩
theorem rest_room {m : MethodId} {la : Array Slot} {stk : List Value} (h : (st.map Value.category).sum ≤ 8) : 2 * (F0 m pc la stk).monitorRoom + ((st.map (rv G)).map fun v => v.category).sum ≤ 8 := by
  refine lv_room ?_
  have : (st.map (rv G)).map (fun v => v.category) = st.map Value.category := by
    rw [List.map_map]
    apply List.map_congr_left
    intro v _
    cases v <;> rfl
  rw [this]; exact h
/-- the run of a call, walked on -/
theorem Vw.call {a : List Value} {stk : List Value} (hout : jT j = []) (run : ∀ (p : Program) (e : Env) (s : State) (m : MethodId) (args : Array Value) (below : List Frame) (meth : Method) (c : Code) (h0 : mH) (H : Heap) (locs : List Loc) (la : Array Slot), Fr G j h0 p s m args meth c → va_S (gA G) s.heap H locs → Pic G h H → Ext h0 h → la.size = jL j →
    (h.1.length - h0.1.length) + (NC - h.1.length) ≤ NC - h0.1.length → (sl h - sl h0) + (NS - sl h) ≤ NS - sl h0 → (∀ U : State, U.heap = H → s.WarmedH U.vm → gW G U) →
    vx_Run p (gL G) e (jRm j h0) s m args below meth c H locs (h.1.length - h0.1.length) (sl h - sl h0) (NC - h.1.length) (NS - sl h) (F0 m pc la (stk.map (rv G))) (st.map (rv G)) (qR G h (Aft G j pc ls st Q) (a.map (rv G)).toArray) (qX G h (Aft G j pc ls st Q)) (gA G)) : Vw G j pc ls stk h Q := by
  intro p e s m args below meth c h0 H locs la F hS hP hE hl
  obtain ⟨r, hr⟩ := id hE
  have hlen : h.1.length = h0.1.length + r.length := by rw [hr, List.length_append]
  have hsum : sl h = sl h0 + (r.map Prod.snd).sum := by unfold sl; rw [hr, List.map_append, List.sum_append]
  have b1 := hP.2.1
  have b2 := hP.2.2.1
  have hsz : gZ G ≤ s.heap.size := by rw [F.2.2.2.2.2.2.2.2.1.1]; omega
  have hold : ∀ q, q < gZ G → H[q]? = s.heap[q]? := fun q hq => hS.2.1 q (by omega) (fun z => absurd z (Nat.not_le.mpr hq))
  have R0 := run p e s m args below meth c h0 H locs la F hS hP hE hl.1 (by omega) (by omega) (fun U hU hW => F.2.2.2.2.2.2.2.1.move hW hsz (fun q hq => by rw [hU]; exact hold q hq))
  intro T hT X
  have put : ∀ (st₀ t T' : State) (L : List Loc) (h' : mH), st₀.heap = H → (∀ q ∈ L, gA G q.base) → T'.heap = t.heap → Pic G h' t.heap → Ext h h' → (∀ q, q < gZ G → t.heap[q]? = st₀.heap[q]?) → va_S (gA G) s.heap T'.heap (locs ++ L) := by
    intro st₀ t T' L h' k0 kL k1 kP kE kO
    refine ⟨?_, fun q h1 h2 => ?_, fun z hz => ?_⟩
    · obtain ⟨r', hr'⟩ := kE
      have : h'.1.length = h.1.length + r'.length := by rw [hr', List.length_append]
      rw [k1, kP.1, F.2.2.2.2.2.2.2.2.1.1]; omega
    · have hq : q < gZ G := Nat.not_le.mp h2
      rw [k1, kO q hq, k0]; exact hold q hq
    · rcases List.mem_append.mp hz with q | q
      · exact hS.2.2 z q
      · exact kL z q
  rcases R0 T hT X with ⟨v, st₀, t, T', L, k0, X', kL, k1, k2, ⟨w, h', c1, c2, c3, c4, c5⟩, go⟩ | ⟨q, st₀, t, T', L, E, ce, k0, X', kL, k1, k2, ⟨h', c2, c3, c4, c5⟩, hce, hcv, hcl, go⟩
  · cases c1
    have X2 := tight (G := G) X' F.2.2.2.2.2.2.2.2.1 (by rw [k1]; exact c3) (hE.trans c4)
    obtain ⟨t2, a1, b1⟩ := c2 p e s m args below meth c h0 T'.heap (locs ++ L) la F (put st₀ t T' L h' k0 kL k1 c3 c4 c5) (by rw [k1]; exact c3) (hE.trans c4) hl T' rfl X2
    refine ⟨t2, go t2 ?_, b1⟩
    have he : (Option.map (rv G) w).toList ++ st.map (rv G) = (w.toList ++ st).map (rv G) := by cases w <;> rfl
    show Steps _ _ _ (T'.setTop (F0 m (pc + 3) la ((Option.map (rv G) w).toList ++ st.map (rv G)))) t2
    rw [he]
    exact a1
  · have X2 := tight (G := G) X' F.2.2.2.2.2.2.2.2.1 (by rw [k1]; exact c3) (hE.trans c4)
    have hS' := put st₀ t T' L h' k0 kL k1 c3 c4 c5
    have ho : ∀ x ∈ c.exceptionTable.toList, covers x pc = false := by
      rw [F.2.2.2.2.2.2.2.2.2.2, hout]
      intro x hx
      cases hx
    have hle1 : h'.1.length - h0.1.length ≤ NC - h0.1.length := Nat.sub_le_sub_right c3.2.1 _
    have hle2 : sl h' - sl h0 ≤ NS - sl h0 := Nat.sub_le_sub_right c3.2.2.1 _
    obtain ⟨t2, a1, b1⟩ := vx_out (p := p) (l := gL G) (e := e) (R := jRm j h0) (args := args) (below := below) (ls := la) (rest := st.map (rv G)) (Qc := qR G h0 Q) (XC := qX G h0 Q) (free := gA G) (E := E) (ce := ce) (q := q) (pc := pc) ho F.2.2.2.2.1 (H := T'.heap) (by rw [k1]; exact hce) hcv hcl
      (fun u hu _ => ⟨h', c2, by rw [hu, k1]; exact c3, hE.trans c4, fun q hq => by rw [hu, k1, c5 q hq, k0]; exact hold q hq⟩) hS'.2.2 hle1 hle2 T' rfl X2
    exact ⟨t2, go.trans a1, b1⟩
/-- an instance's method -/
theorem s_callV {i n o c nn : Nat} {j' : MX} {As : List Value} (hd : decode (jC j) pc = .ok (.invokevirtual i, 3)) (hout : jT j = []) (hl : kLV (jY j).cls i j' n) (hF : Fits j j') (ho : h.1[o]? = some (c, nn)) (hc : ∃ T N, c < 11 ∧ mCl[c]? = some ((jY j').cls, T, N)) (hn : As.length = n) (hst : (st.map Value.category).sum ≤ 8)
    (k : WM G j' (.ref o :: As) h (Aft G j pc ls st Q)) : Vw G j pc ls (As.reverse ++ .ref o :: st) h Q := by
  refine Vw.call (a := .ref o :: As) (st := st) hout ?_
  intro p e s m args below meth c' h0 H locs la F hS hP hE hla b1 b2 hg
  obtain ⟨hB, h1, h2, h3⟩ := hl
  have hts := F.2.2.2.2.2.2.1
  obtain ⟨T, N, hc1, hc2⟩ := hc
  obtain ⟨ce, q1, q2, q3, q4, -⟩ := hP.2.2.2 o c nn ho
  have hfc := (F.2.2.2.2.2.2.2.1.1.1 c _ hc2).2.1
  have := vx_runV (n := n) (rest := st.map (rv G)) (b := gZ G + o) (As := As.map (rv G)) (H := H) (p := p) (e := e) (below := below) (meth := meth) (locs := locs) (cells := h.1.length - h0.1.length) (slots := sl h - sl h0) (g := F0 m pc la ((As.reverse ++ .ref o :: st).map (rv G))) (C := (jY j').cls) (R := jRm j h0) ⟨F.1, F.2.1, F.2.2.1, F.2.2.2.2.2.1, hts⟩ k ⟨callB (h := h) hts hB h1 hF, hts _ h2, hts _ h3⟩
    ⟨blind, ⟨ce, q1, by rw [q3 (by omega)]; rfl, by rw [(q4 hc1).1]; exact hfc⟩, fun U hU hW => ⟨rfl, hg U hU hW, by rw [hU]; exact hP⟩⟩ rfl (by rw [List.length_map]; exact hn) hla (by simp [rv]) (rest_room hst) hd ⟨b1, b2⟩
  exact this
/-- a static method -/
theorem s_callS {i n : Nat} {j' : MX} {As : List Value} (hd : decode (jC j) pc = .ok (.invokestatic i, 3)) (hout : jT j = []) (hl : kLS (jY j).cls i j' n) (hF : Fits j j') (hn : As.length = n) (hst : (st.map Value.category).sum ≤ 8)
    (k : WM G j' As h (Aft G j pc ls st Q)) : Vw G j pc ls (As.reverse ++ st) h Q := by
  refine Vw.call (a := As) (st := st) hout ?_
  intro p e s m args below meth c' h0 H locs la F hS hP hE hla b1 b2 hg
  obtain ⟨hB, h1, h2⟩ := hl
  have hts := F.2.2.2.2.2.2.1
  have := vx_runS (n := n) (rest := st.map (rv G)) (As := As.map (rv G)) (H := H) (p := p) (e := e) (below := below) (meth := meth) (locs := locs) (cells := h.1.length - h0.1.length) (slots := sl h - sl h0) (g := F0 m pc la ((As.reverse ++ st).map (rv G))) (R := jRm j h0) ⟨F.1, F.2.1, F.2.2.1, F.2.2.2.2.2.1, hts⟩ k ⟨callB (h := h) hts hB h1 hF, hts _ h2⟩
    ⟨blind, fun U hU hW => ⟨rfl, hg U hU hW, by rw [hU]; exact hP⟩⟩ rfl (by rw [List.length_map]; exact hn) hla (by simp) (rest_room hst) hd ⟨b1, b2⟩
  exact this
end CALLS
