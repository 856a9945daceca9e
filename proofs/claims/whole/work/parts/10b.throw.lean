section THROWS
variable {G : GX} {j : MX} {pc : Nat} {ls : mL} {st : List Value} {h : mH} {Q : mO → mH → Prop}
theorem W.weaken {p : Program} {l : Launch} {e : Env} {R : Room} {s : State} {m : MethodId} {args : Array Value} {below : List Frame} {meth : Method} {c : Code} {H : Heap} {locs : List Loc} {cells slots : Nat} {Q1 Q2 : State → Prop} {g : JFrame} (hq : ∀ t, Q1 t → Q2 t) (k : W p l e R s m args below meth c H locs cells slots Q1 g) : W p l e R s m args below meth c H locs cells slots Q2 g := by
  intro T hT X
  obtain ⟨t, a, b⟩ := k T hT X
  exact ⟨t, a, hq t b⟩
def exNames : List String := ["java/lang/RuntimeException", "java/lang/Exception"]
set_option maxHeartbeats 2000000 in
/-- 'throw new E("text")', the first link told by entry and bytes (as vx_throwSW, over mz_ctor) -/
theorem mz_throw {p : Program} {l : Launch} {e : Env} {R : Room} {s : State} {m : MethodId} {args : Array Value} {below : List Frame} {meth : Method} {c : Code} {H : Heap} {locs : List Loc} {cells slots : Nat} {Qc : Array Value → State → Outcome → State → Prop} {XC : String → State → State → Prop} {free : Addr → Prop} {la : Array Slot} {rest : List Value} {cc : ByteArray} {pc : Nat} (hexec : p.tables.exec = Jvm.exec) (hb : c.code = cc) (hl : l.stackTraces = false) {own cls text Y : String} {r : List String} {ik is ic ix mc ms sa : Nat} {rx : ByteArray} {A : Nat → Prop}
    (x0 : decode rx 0 = .ok (.aload_n 0, 1)) (x1 : decode rx 1 = .ok (.aload_n 1, 1)) (x2 : decode rx 2 = .ok (.invokespecial ix, 3)) (x5 : decode rx 5 = .ok (.return_, 1))
    (hown : s.vm.findClass own = some m.cls) (hcls : Bundle.fit cls = true) (hnames : ∀ n ∈ Y :: r, Bundle.fit n = true)
    (hk : (Cond.classLink own ik cls).before args s = true) (hini : (Cond.initialized cls).before args s = true) (hstr : vk_R own is text sa s) (hat : ∀ w ∈ (mzAtoms own ic cls ix rx (Y :: r)).filter vx_no, w.before args s = true)
    (hgood : ∀ w ∈ Cond.classLink own ik cls :: Cond.initialized cls :: (mzAtoms own ic cls ix rx (Y :: r)).filter vx_no, vx_ot w = true)
    (hU : vx_Zq Bundle.tN "UNASSIGNED_STACK" Bundle.steD A s s.heap) (hN : vx_Zq Bundle.tN "SUPPRESSED_SENTINEL" Bundle.listD A s s.heap) (hS : va_S A s.heap H locs) (hsize : la.size = c.maxLocals)
    (d0 : decode cc pc = .ok (.new ik, 3)) (d3 : decode cc (pc + 3) = .ok (.dup, 1)) (d4 : decode cc (pc + 4) = .ok (.ldc_w is, 3)) (d7 : decode cc (pc + 7) = .ok (.invokespecial ic, 3)) (d10 : decode cc (pc + 10) = .ok (.athrow, 1))
    (hout : ∀ x ∈ c.exceptionTable.toList, covers x (pc + 10) = false)
    (hRframes : r.length + 4 < R.frames) (hRlocals : (rest.map fun v => v.category).sum + (13 * (r.length + 2) + 43) ≤ R.locals) (hRcells : cells + 1 ≤ R.cells) (hRslots : slots + 6 ≤ R.slots) (hlocks : meth.locks = false)
    (hx : ∀ t : State, s.vm.Alike t.vm → H.size ≤ t.heap.size → (∀ q : Nat, q < H.size → t.heap[q]? = H[q]?) → XC cls s t)
    (hf : ∀ z ∈ locs, free z.base) (hc : cells + 1 ≤ mc) (hs : slots + 6 ≤ ms) :
    W p l e R s m args below meth c H locs cells slots (vx_MQ below Qc XC args s mc ms free) (F0 m pc la rest) := by
  intro T hT X
  have htr : e.platform.stackTraces = false := (show e.platform.stackTraces = l.stackTraces by rw [X.admits.platform]).trans hl
  have Y9 := vx_rebase X (R' := { frames := R.frames, locals := R.locals, cells := 1, slots := 6 }) (Nat.le_refl _) (Nat.le_refl _) hRcells hRslots
  obtain ⟨s', hA⟩ : ∃ z, z = (T.setVm s.vm).setFrames (.invoking m args :: below) := ⟨_, rfl⟩
  rw [← hA] at Y9
  have hvm : s'.vm = s.vm := by rw [hA]; rfl
  have hhp : s'.heap = H := by rw [hA]; exact hT
  have hW0 : s.WarmedH s'.vm := by rw [hvm]; exact State.WarmedH.refl s
  have hat' : ∀ w ∈ (mzAtoms own ic cls ix rx (Y :: r)).filter vx_no, w.before args s' = true := fun w hw => vx_ot_at hW0 hvm.symm (hgood w (List.mem_cons_of_mem _ (List.mem_cons_of_mem _ hw))) (hat w hw)
  have hk' : (Cond.classLink own ik cls).before args s' = true := vx_ot_at hW0 hvm.symm (hgood _ List.mem_cons_self) hk
  have hini' : (Cond.initialized cls).before args s' = true := vx_ot_at hW0 hvm.symm (hgood _ (List.mem_cons_of_mem _ List.mem_cons_self)) hini
  have hU' : vx_Zq Bundle.tN "UNASSIGNED_STACK" Bundle.steD A s' s'.heap := by rw [hhp]; exact vx_Zq.moved hW0.alike (hU.kept hS.2.1)
  have hN' : vx_Zq Bundle.tN "SUPPRESSED_SENTINEL" Bundle.listD A s' s'.heap := by rw [hhp]; exact vx_Zq.moved hW0.alike (hN.kept hS.2.1)
  have h : ∀ w ∈ mzAtoms own ic cls ix rx (Y :: r), w.before args s' = true := vx_own hat' (vx_isRefq hU'.1) (vx_isRefq hN'.1) hU'.2.word hN'.2.word
  have hown' : s'.vm.findClass own = some m.cls := by rw [hvm]; exact hown
  have hins : (Cond.instantiable cls 6).before args s' = true := h _ (List.mem_append_right _ (by simp [mzRest]))
  obtain ⟨vm₁, cX, kX, hfX, hkX, -, -, X₁, st1⟩ := Y9.newCold hexec (own := own) (C := cls) (index := ik) (n := 6) hown' hk' hins hini'
    (g := F0 m pc la rest) rfl (by rw [hb]; exact d0) (Nat.le_refl _) (Nat.le_refl _)
  generalize hT1 : (T.setVm vm₁).pushCell { cls := cX, slots := kX.instanceTypes.map defaultValue, vm := .none } = T1 at X₁ st1
  have hcat : (Value.ref T.heap.size).category = 1 := rfl
  have hcellA : T1.heap[T.heap.size]? = some (freshCell cX kX) := by rw [← hT1]; exact State.heap_pushCell_size _ _
  have d3' : decode c.code (pc + 3) = .ok (.dup, 1) := by rw [hb]; exact d3
  have d4' : decode c.code (pc + 4) = .ok (.ldc_w is, 3) := by rw [hb]; exact d4
  have hstr' : vk_R own is text sa s' := vk_R.warm hW0 hstr
  obtain ⟨U, hsteps, hrun, hend, hW, hsame, ce, hce, hO1, hO2⟩ := mz_ctor X₁ hexec htr x0 x1 x2 x5 (own := own) (cls := cls) (ic := ic) hown' hcls hnames h (fun x hx => nomatch hx) hfX hkX hcellA (by rw [hhp, hT]; exact Nat.le_refl _) (msg := .ref sa) rfl
    (g := { method := m, pc := pc + 7, locals := la, stack := .ref sa :: .ref T.heap.size :: .ref T.heap.size :: rest, locked := none }) rfl hsize rfl rfl (rest := rest) rfl
    (by rw [hb]; exact d7) (by rw [hb]; exact d10) hout hRframes (by simp only [List.map_cons, List.sum_cons, hcat]; omega) hlocks
  obtain ⟨f1, f2⟩ := vx_frame hsame
  rw [hhp] at f1 f2
  have hWs : s.WarmedH U.vm := State.WarmedH.trans hW0 hW
  have hcl : s.vm.findClass cls = some ce.cls := by
    rw [hvm] at hO1
    exact hO1
  have hall : s.sameButNew ({ U with vm := s.vm } : State) locs mc ms := by
    subst hA
    obtain ⟨e1, e2⟩ := hsame
    rw [State.setFrames_setFrames] at e1
    have h2 : (T.setVm s.vm).sameButNew ({ U with vm := s.vm } : State) [] (0 + 1) (0 + 6) := ⟨e1, e2⟩
    have h3 := X.same.trans h2
    rw [List.append_nil] at h3
    exact h3.mono hc hs
  refine ⟨U, ?_, .threw T.heap.size, hrun, hend, Or.inr ⟨T.heap.size, rfl, cls, ce, locs, hx U hWs.alike f1 (fun q hq => f2 q hq (fun z hz => nomatch hz)), hce, hO2, hcl, hWs, hall, hf⟩⟩
  refine st1 _ ?_
  show Steps p.tables e below (T1.setTop { method := m, pc := pc + 3, locals := la, stack := .ref T.heap.size :: rest, locked := none }) _
  jvm_step X₁.here [X₁.here.top, hexec, d3', Value.category]
  exact X₁.ldcStringW hexec (own := own) (text := text) (index := is) (a := sa) hown' hstr'.1 hstr'.2
    (g := { method := m, pc := pc + 4, locals := la, stack := .ref T.heap.size :: .ref T.heap.size :: rest, locked := none }) rfl d4' _ hsteps
/-- what 'throw new E("text")' wants of the tables -/
def kLT (own E : String) (ik ic is ix : Nat) (rx : ByteArray) (n : Nat) (text : String) : Prop := Bundle.fit E = true ∧ Cond.classLink own ik E ∈ gT ∧ Cond.initialized E ∈ gT ∧ sTab[n]? = some (own, is, text) ∧ (∀ w ∈ (mzAtoms own ic E ix rx exNames).filter vx_no, w ∈ lw_tbl ∧ mvb w = true) ∧ (∀ w ∈ Cond.classLink own ik E :: Cond.initialized E :: (mzAtoms own ic E ix rx exNames).filter vx_no, vx_ot w = true) ∧ decode rx 0 = .ok (.aload_n 0, 1) ∧ decode rx 1 = .ok (.aload_n 1, 1) ∧ decode rx 2 = .ok (.invokespecial ix, 3) ∧ decode rx 5 = .ok (.return_, 1)
theorem exNames_fit : ∀ n ∈ "java/lang/RuntimeException" :: ["java/lang/Exception"], Bundle.fit n = true := by decide +kernel
/-- 'throw new E("text")': a thing of six cells at most comes, nothing else changes -/
theorem s_throw {E text : String} {ik ic is ix n : Nat} {rx : ByteArray} (d0 : decode (jC j) pc = .ok (.new ik, 3)) (d3 : decode (jC j) (pc + 3) = .ok (.dup, 1)) (d4 : decode (jC j) (pc + 4) = .ok (.ldc_w is, 3)) (d7 : decode (jC j) (pc + 7) = .ok (.invokespecial ic, 3)) (d10 : decode (jC j) (pc + 10) = .ok (.athrow, 1)) (hout : jT j = []) (hl : kLT (jY j).cls E ik ic is ix rx n text) (hf : 6 ≤ jF j) (hw : (st.map Value.category).sum + 82 ≤ jW j) (b1 : h.1.length + 1 ≤ NC) (b2 : sl h + 6 ≤ NS) (k0 : Q (.inr E) h) (k : ∀ n, n ≤ 6 → Q (.inr E) (aN h 200 n)) : Vw G j pc ls st h Q := by
  intro p e s m args below meth c' h0 H locs la F hS hP hE hl9
  have hts := F.2.2.2.2.2.2.1
  have hg := F.2.2.2.2.2.2.2.1
  obtain ⟨l1, l2, l3, l4, l5, l6, y0, y1, y2, y5⟩ := hl
  obtain ⟨r, hr⟩ := id hE
  have hlen : h.1.length = h0.1.length + r.length := by rw [hr, List.length_append]
  have hsum : sl h = sl h0 + (r.map Prod.snd).sum := by unfold sl; rw [hr, List.map_append, List.sum_append]
  have hcat : ((st.map (rv G)).map fun v => v.category) = st.map Value.category := by
    rw [List.map_map]
    apply List.map_congr_left
    intro v _
    cases v <;> rfl
  have hsz : gZ G ≤ s.heap.size := by rw [F.2.2.2.2.2.2.2.2.1.1]; omega
  have hold : ∀ q, q < gZ G → H[q]? = s.heap[q]? := fun q hq => hS.2.1 q (by omega) (fun z => absurd z (Nat.not_le.mpr hq))
  have key := mz_throw (Y := "java/lang/RuntimeException") (r := ["java/lang/Exception"]) (Qc := qR G h0 Q) (XC := fun E' s' t => E' = E ∧ s' = s ∧ H.size ≤ t.heap.size ∧ ∀ q : Nat, q < H.size → t.heap[q]? = H[q]?) (p := p) (l := gL G) (e := e) (R := jRm j h0) (s := s) (m := m) (args := args) (below := below) (meth := meth) (c := c') (H := H) (locs := locs) (cells := h.1.length - h0.1.length) (slots := sl h - sl h0) (la := la) (rest := st.map (rv G)) (mc := h.1.length - h0.1.length + 1) (ms := sl h - sl h0 + 6) (free := gA G) (A := gA G) (sa := gO G n) (text := text) (own := (jY j).cls) (cls := E) (ik := ik) (is := is) (ic := ic) (ix := ix) (rx := rx)
    F.1 F.2.1 hg.2.2.2.1 y0 y1 y2 y5 F.2.2.2.2.2.1 l1 exNames_fit (hts _ l2) (hts _ l3) (hg.2.2.2.2.1 n _ l4) (fun w hw => va_Nw.use (by have := (l5 w hw).2; unfold mvb at this; rw [Bool.and_eq_true] at this; exact this.1) (hg.2.2.2.2.2.2.1 w (l5 w hw).1 (l5 w hw).2)) l6 hg.2.1 hg.2.2.1 hS (by rw [F.2.2.1]; exact hl9.1)
    d0 d3 d4 d7 d10 (by rw [F.2.2.2.2.2.2.2.2.2.2, hout]; intro x hx; cases hx) (by show 1 + 4 < jF j; omega) (by rw [hcat]; show _ + (13 * (1 + 2) + 43) ≤ jW j; omega) (by show _ + 1 ≤ NC - h0.1.length; omega) (by show _ + 6 ≤ NS - sl h0; omega) F.2.2.2.2.1
    (fun t _ t1 t2 => ⟨rfl, rfl, t1, t2⟩) hS.2.2 (Nat.le_refl _) (Nat.le_refl _)
  refine W.weaken ?_ key
  intro t ht
  obtain ⟨o, a1, a2, a3⟩ := ht
  refine ⟨o, a1, a2, ?_⟩
  rcases a3 with ⟨⟨v, h', c1, c2, c3⟩, L, hFE, hL⟩ | ⟨q, c0, E', ce, L, ⟨rfl, -, t1, t2⟩, c2, c3, c4, c5, c6, c7⟩
  · obtain ⟨q1, q2, q3⟩ := hFE
    exact Or.inl ⟨⟨v, h', c1, c2, c3⟩, L, ⟨q1, q2, q3.mono (by omega) (by omega)⟩, hL⟩
  · refine Or.inr ⟨q, c0, E', ce, L, ?_, c2, c3, c4, c5, c6.mono (by omega) (by omega), c7⟩
    obtain ⟨x1, x2, x3, x4, x5, x6⟩ := c6
    have y1 : t.heap.size ≤ s.heap.size + (h.1.length - h0.1.length + 1) := x3
    have y5 : ((t.heap.toList.drop s.heap.size).map (fun x : Cell => x.slots.size)).sum ≤ sl h - sl h0 + 6 := x5
    have z0 := F.2.2.2.2.2.2.2.2.1.1
    have zH := hP.1
    have hob : ∀ q, q < gZ G → t.heap[q]? = s.heap[q]? := fun q hq => (t2 q (by omega)).trans (hold q hq)
    by_cases hz : t.heap.size = H.size
    · have he : t.heap = H := by
        apply Array.ext_getElem?
        intro i
        by_cases hi : i < H.size
        · exact t2 i hi
        · rw [Array.getElem?_eq_none (by omega), Array.getElem?_eq_none (by omega)]
      exact ⟨h, k0, by rw [he]; exact hP, hE, hob⟩
    · have hs1 : t.heap.size = H.size + 1 := by omega
      obtain ⟨ce9, hce9⟩ : ∃ ce9, t.heap[H.size]? = some ce9 := ⟨_, Array.getElem?_eq_getElem (by omega)⟩
      have hl : (t.heap.toList.drop s.heap.size).map (fun x : Cell => x.slots.size) = r.map Prod.snd ++ [ce9.slots.size] := by
        apply List.ext_getElem?
        intro i
        rw [List.getElem?_map, List.getElem?_drop, Array.getElem?_toList]
        by_cases hi : i < r.length
        · rw [List.getElem?_append_left (by simpa using hi), List.getElem?_map, t2 _ (by omega)]
          obtain ⟨⟨c9, n9⟩, hq9⟩ : ∃ q, r[i]? = some q := ⟨_, List.getElem?_eq_getElem hi⟩
          have : h.1[h0.1.length + i]? = some (c9, n9) := by rw [hr, List.getElem?_append_right (by omega)]; simpa using hq9
          obtain ⟨ce8, g1, g2⟩ := hP.2.2.2 _ c9 n9 this
          rw [z0, Nat.add_assoc, g1, hq9]
          show some ce8.slots.size = some n9
          rw [g2.1]
        · rw [List.getElem?_append_right (by simpa using hi)]
          by_cases hi2 : i = r.length
          · subst hi2
            rw [show s.heap.size + r.length = H.size by omega, hce9]
            simp
          · rw [Array.getElem?_eq_none (by omega), List.getElem?_eq_none (by simp; omega)]
            rfl
      rw [hl, List.sum_append] at y5
      have hn6 : ce9.slots.size ≤ 6 := by simp at y5; omega
      refine ⟨aN h 200 ce9.slots.size, k _ hn6, ?_, hE.new, hob⟩
      exact hP.new b1 (by omega) hs1 t2 hce9 ⟨rfl, fun z => by omega, fun z => by omega, fun z => by omega, fun z => by omega, fun z => by omega⟩
end THROWS
