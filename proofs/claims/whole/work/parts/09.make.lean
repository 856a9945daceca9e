section MAKES
variable {G : GX} {j : MX} {pc : Nat} {ls : mL} {st : List Value} {h : mH} {Q : mO → mH → Prop}
theorem WM.met {a : List Value} {K0 K1 : mO → mH → Prop} (h1 : ∀ v h, K0 (.inl v) h → K1 (.inl v) h) (h2 : ∀ E h, ¬ K0 (.inr E) h) (k : WM G j a h K0) : Met (gL G) (jY j) (jWs j) (jRm j h) (fun v U => v = (a.map (rv G)).toArray ∧ gW G U ∧ Pic G h U.heap) (qR G h K1) (NC - h.1.length) (NS - sl h) (gA G) := by
  intro p e q1 q2 q3 s m args below q4 q5 q6 q7
  obtain ⟨n, o, a1, a2, a3, a4⟩ := k p e q1 q2 q3 s m args below q4 q5 q6 q7
  refine ⟨n, o, a1, a2, a3, ?_⟩
  rcases a4 with ⟨⟨v, h', c1, c2, c3⟩, b4⟩ | ⟨q, c0, E, ce, L, ⟨h', c2, c3⟩, b4⟩
  · exact ⟨⟨v, h', c1, h1 _ _ c2, c3⟩, b4⟩
  · exact absurd c2 (h2 _ _)
/-- behind a call that never throws -/
def Aft0 (G : GX) (j : MX) (pc : Nat) (ls : mL) (st : List Value) (Q : mO → mH → Prop) : mO → mH → Prop := fun o h => match o with
  | .inl v => Vw G j (pc + 3) ls (v.toList ++ st) h Q
  | .inr _ => False
theorem aft0_met {a : List Value} {j' : MX} (k : WM G j' a h (Aft0 G j pc ls st Q)) : Met (gL G) (jY j') (jWs j') (jRm j' h) (fun v U => v = (a.map (rv G)).toArray ∧ gW G U ∧ Pic G h U.heap) (qR G h (Aft G j pc ls st Q)) (NC - h.1.length) (NS - sl h) (gA G) := WM.met (K0 := Aft0 G j pc ls st Q) (K1 := Aft G j pc ls st Q) (fun _ _ z => z) (fun _ _ z => z) k
def kLN (own : String) (i : Nat) (j' : MX) (n : Nat) (host : String) : Prop := kLB own i j' n ∧ Cond.methodLinkNest own i (jY j') host ∈ lw_tbl
theorem callN {R : Room} {s : State} {args : Array Value} {own host : String} {i n : Nat} {j' : MX} (hts : ∀ w ∈ gT, w.before args s = true) (hg : gF s) (hl : kLN own i j' n host) (hR : jF j' + 1 ≤ R.frames ∧ 8 + (jL j' + 11) + jW j' ≤ R.locals) : va_CN R s args own i (jY j') host (jC j') (jL j') (jR j') (jWs j') (jRm j' h) (NC - h.1.length) (NS - sl h) n := by
  obtain ⟨⟨l1, l2, l3, l4, l5⟩, hlk⟩ := hl
  have hk : jK j' = Cond.code (jY j') (jC j') (jL j') (jR j') := by unfold jK; rw [l1]
  refine ⟨⟨rfl, rfl, hR.1, hR.2, fun w hw a' U hW => ?_, by unfold jWs; rw [hk]; exact List.mem_cons_self⟩, by rw [← hk]; exact hts _ l2, hts _ l3, l4, fun sig hs => ?_, va_Nw.use rfl (hg _ hlk rfl)⟩
  · rcases List.mem_cons.mp hw with e | e
    · rw [e]; exact gT_warm hW l2 (hts _ l2)
    · exact gT_warm hW e (hts _ e)
  · rw [hs] at l5
    exact (Option.some.inj l5).symm
theorem vx_of_va {p : Program} {l : Launch} {e : Env} {R : Room} {s : State} {m : MethodId} {args : Array Value} {below : List Frame} {meth : Method} {c : Code} {H : Heap} {locs : List Loc} {cells slots mc ms : Nat} {g : JFrame} {rest : List Value} {Qa : State → Outcome → State → Prop} {XC : String → State → State → Prop} {free : Addr → Prop} (hr : va_Run p l e R s m args below meth c H locs cells slots mc ms g rest Qa free) : vx_Run p l e R s m args below meth c H locs cells slots mc ms g rest Qa XC free := fun T hT X => Or.inl (hr T hT X)
/-- a nest mate's static method -/
theorem s_callSN {i n : Nat} {j' : MX} {As : List Value} {host : String} (hd : decode (jC j) pc = .ok (.invokestatic i, 3)) (hout : jT j = []) (hl : kLN (jY j).cls i j' n host) (hs : Cond.static (jY j') ∈ gT) (hF : Fits j j') (hn : As.length = n) (hst : (st.map Value.category).sum ≤ 8)
    (k : WM G j' As h (Aft0 G j pc ls st Q)) : Vw G j pc ls (As.reverse ++ st) h Q := by
  refine Vw.call (a := As) (st := st) hout ?_
  intro p e s m args below meth c' h0 H locs la F hS hP hE hla b1 b2 hg
  have hts := F.2.2.2.2.2.2.1
  exact vx_of_va (va_runSN (n := n) (rest := st.map (rv G)) (As := As.map (rv G)) (H := H) (p := p) (e := e) (below := below) (meth := meth) (locs := locs) (cells := h.1.length - h0.1.length) (slots := sl h - sl h0) (g := F0 m pc la ((As.reverse ++ st).map (rv G))) (R := jRm j h0) ⟨F.1, F.2.1, F.2.2.1, F.2.2.2.2.2.1, hts⟩ (aft0_met k) ⟨callN (h := h) hts F.2.2.2.2.2.2.2.1.2.2.2.2.2.2.1 hl hF, hts _ hs, trivial⟩
    ⟨blind, fun U hU hW => ⟨rfl, hg U hU hW, by rw [hU]; exact hP⟩⟩ rfl (by rw [List.length_map]; exact hn) hla (by simp) (rest_room hst) hd ⟨b1, b2⟩)
/-- a nest mate's constructor -/
theorem s_callIN {i n o : Nat} {j' : MX} {As : List Value} {host : String} (hd : decode (jC j) pc = .ok (.invokespecial i, 3)) (hout : jT j = []) (hl : kLN (jY j).cls i j' n host) (hs : Cond.instanceMethod (jY j') ∈ gT) (hin : (jY j').name = "<init>") (hret : jR j' = none) (hF : Fits j j') (hn : As.length = n) (hst : (st.map Value.category).sum ≤ 8)
    (k : WM G j' (.ref o :: As) h (Aft0 G j pc ls st Q)) : Vw G j pc ls (As.reverse ++ .ref o :: st) h Q := by
  refine Vw.call (a := .ref o :: As) (st := st) hout ?_
  intro p e s m args below meth c' h0 H locs la F hS hP hE hla b1 b2 hg
  have hts := F.2.2.2.2.2.2.1
  have hcn := callN (h := h) (R := jRm j h0) hts F.2.2.2.2.2.2.2.1.2.2.2.2.2.2.1 hl hF
  rw [hret] at hcn
  exact vx_of_va (va_runIN (n := n) (rest := st.map (rv G)) (b := gZ G + o) (As := As.map (rv G)) (H := H) (p := p) (e := e) (below := below) (meth := meth) (locs := locs) (cells := h.1.length - h0.1.length) (slots := sl h - sl h0) (g := F0 m pc la ((As.reverse ++ .ref o :: st).map (rv G))) (R := jRm j h0) ⟨F.1, F.2.1, F.2.2.1, F.2.2.2.2.2.1, hts⟩ (aft0_met k) ⟨hcn, hin, hts _ hs⟩
    ⟨blind, fun U hU hW => ⟨rfl, hg U hU hW, by rw [hU]; exact hP⟩⟩ rfl (by rw [List.length_map]; exact hn) hla (by simp [rv]) (rest_room hst) hd ⟨b1, b2⟩)
/-- a constructor -/
theorem s_callI {i n o : Nat} {j' : MX} {As : List Value} (hd : decode (jC j) pc = .ok (.invokespecial i, 3)) (hout : jT j = []) (hl : kLB (jY j).cls i j' n) (hlk : Cond.methodLink (jY j).cls i (jY j') ∈ gT) (hs : Cond.instanceMethod (jY j') ∈ gT) (hin : (jY j').name = "<init>") (hret : jR j' = none) (hF : Fits j j') (hn : As.length = n) (hst : (st.map Value.category).sum ≤ 8)
    (k : WM G j' (.ref o :: As) h (Aft0 G j pc ls st Q)) : Vw G j pc ls (As.reverse ++ .ref o :: st) h Q := by
  refine Vw.call (a := .ref o :: As) (st := st) hout ?_
  intro p e s m args below meth c' h0 H locs la F hS hP hE hla b1 b2 hg
  have hts := F.2.2.2.2.2.2.1
  have hcn := callB (h := h) (R := jRm j h0) hts hl hlk hF
  rw [hret] at hcn
  exact vx_of_va (va_runI (n := n) (rest := st.map (rv G)) (b := gZ G + o) (As := As.map (rv G)) (H := H) (p := p) (e := e) (below := below) (meth := meth) (locs := locs) (cells := h.1.length - h0.1.length) (slots := sl h - sl h0) (g := F0 m pc la ((As.reverse ++ .ref o :: st).map (rv G))) (R := jRm j h0) ⟨F.1, F.2.1, F.2.2.1, F.2.2.2.2.2.1, hts⟩ (aft0_met k) ⟨hcn, hin, hts _ hs⟩
    ⟨blind, fun U hU hW => ⟨rfl, hg U hU hW, by rw [hU]; exact hP⟩⟩ rfl (by rw [List.length_map]; exact hn) hla (by simp [rv]) (rest_room hst) hd ⟨b1, b2⟩)
theorem s_objInit {i o : Nat} (hd : decode (jC j) pc = .ok (.invokespecial i, 3)) (hlk : Cond.methodLink (jY j).cls i Lib.objectInit ∈ gT) (h1 : Cond.instanceMethod Lib.objectInit ∈ gT) (h2 : Cond.code Lib.objectInit ⟨#[0xb1]⟩ 1 none ∈ gT) (hf : 1 ≤ jF j) (hw : (st.map Value.category).sum + 12 ≤ jW j) (k : Vw G j (pc + 3) ls st h Q) : Vw G j pc ls (.ref o :: st) h Q := by
  refine Vw.same (fun p e s m args below meth c h0 H locs la Q cells slots F hl k => ?_) k
  have hts := F.2.2.2.2.2.2.1
  refine W.objInit (rest := st.map (rv G)) (a := gZ G + o) (g := F0 m pc la ((.ref o :: st).map (rv G))) F.1 F.2.1 F.2.2.2.2.2.1 (hts _ hlk) (hts _ h1) (hts _ h2) rfl (by rw [F.2.2.1]; exact hl.1) rfl hd hf ?_ k
  have : (st.map (rv G)).map (fun v => v.category) = st.map Value.category := by
    rw [List.map_map]
    apply List.map_congr_left
    intro v _
    cases v <;> rfl
  rw [this]
  show 2 * 0 + _ + 12 ≤ jW j
  omega
/-- a new thing of kind c with n cells -/
def aN (h : mH) (c n : Nat) : mH := (h.1 ++ [(c, n)], fun o => if o = h.1.length then (fun _ => 0) else h.2.1 o, fun o => if o = h.1.length then (fun _ => 0) else h.2.2.1 o, fun o => if o = h.1.length then (fun _ => .null) else h.2.2.2 o)
theorem aN_len (h : mH) (c n : Nat) : (aN h c n).1.length = h.1.length + 1 := by simp [aN]
theorem aN_sl (h : mH) (c n : Nat) : sl (aN h c n) = sl h + n := by simp [aN, sl]
theorem Pic.new {H H' : Heap} {c n : Nat} (hP : Pic G h H) (b1 : h.1.length + 1 ≤ NC) (b2 : sl h + n ≤ NS) (z : H'.size = H.size + 1) (oq : ∀ q : Nat, q < H.size → H'[q]? = H[q]?) {ce : Cell} (hce : H'[H.size]? = some ce) (hm : mCell G (aN h c n) h.1.length c n ce) : Pic G (aN h c n) H' := by
  obtain ⟨p1, p2, p3, p4⟩ := hP
  refine ⟨by rw [z, p1, aN_len]; omega, by rw [aN_len]; exact b1, by rw [aN_sl]; exact b2, fun o c' n' ho => ?_⟩
  by_cases e : o < h.1.length
  · have ho' : h.1[o]? = some (c', n') := by
      rw [← ho]
      exact (List.getElem?_append_left e).symm
    obtain ⟨ce', q1, q2⟩ := p4 o c' n' ho'
    have e2 : o ≠ h.1.length := by omega
    exact ⟨ce', by rw [oq _ (by omega)]; exact q1, q2.congr (by simp [aN, e2]) (by simp [aN, e2]) (by simp [aN, e2])⟩
  · have hl := (List.getElem?_eq_some_iff.mp ho).1
    rw [aN_len] at hl
    have e2 : o = h.1.length := by omega
    subst e2
    have : (c, n) = (c', n') := by
      have : (h.1 ++ [(c, n)])[h.1.length]? = some (c', n') := ho
      rw [List.getElem?_append_right (Nat.le_refl _)] at this
      simpa using this
    cases this
    exact ⟨ce, by rw [← p1]; exact hce, hm⟩
def okT (t : FieldType) : Bool := match t with
  | .int => true
  | .boolean => true
  | .long => true
  | .array _ => true
  | .object _ => true
  | _ => false
theorem okT_dflt {t : FieldType} (ht : okT t = true) (c n k : Nat) : rv G (fvT t (aN h c n) h.1.length k) = defaultValue t := by
  cases t <;> first | (simp [fvT, aN, rv, defaultValue]; done) | cases ht
theorem Ext.new {h0 : mH} {c n : Nat} (hE : Ext h0 h) : Ext h0 (aN h c n) := by
  obtain ⟨r, hr⟩ := hE
  exact ⟨r ++ [(c, n)], by simp [aN, hr]⟩
theorem cnt_new {h0 : mH} {c n : Nat} (hE : Ext h0 h) : (aN h c n).1.length - h0.1.length = h.1.length - h0.1.length + 1 ∧ sl (aN h c n) - sl h0 = sl h - sl h0 + n := by
  obtain ⟨r, hr⟩ := hE
  have hlen : h.1.length = h0.1.length + r.length := by rw [hr, List.length_append]
  have hsum : sl h = sl h0 + (r.map Prod.snd).sum := by unfold sl; rw [hr, List.map_append, List.sum_append]
  rw [aN_len, aN_sl]
  omega
theorem s_new {i c N : Nat} {C : String} {T : u_T} (hd : decode (jC j) pc = .ok (.new i, 3)) (hc : CL c C T N) (hok : ∀ k, k < N → okT (mTy c k) = true) (hlk : Cond.classLink (jY j).cls i C ∈ gT) (hins : Cond.instantiable C N ∈ gT) (hini : Cond.initialized C ∈ gT) (b1 : h.1.length + 1 ≤ NC) (b2 : sl h + N ≤ NS) (k : Vw G j (pc + 3) ls (.ref h.1.length :: st) (aN h c N) Q) : Vw G j pc ls st h Q := by
  intro p e s m args below meth c' h0 H locs la F hS hP hE hl
  have hts := F.2.2.2.2.2.2.1
  obtain ⟨hc1, hcl, hin, hty, hnm⟩ := hc
  have hKn := F.2.2.2.2.2.2.2.1.1.1 c _ hcl
  obtain ⟨n1, n2⟩ := cnt_new (c := c) (n := N) hE
  obtain ⟨r, hr⟩ := id hE
  have hlen : h.1.length = h0.1.length + r.length := by rw [hr, List.length_append]
  have hsum : sl h = sl h0 + (r.map Prod.snd).sum := by unfold sl; rw [hr, List.map_append, List.sum_append]
  refine W.newc F.1 F.2.1 F.2.2.2.2.2.1 (hts _ hlk) (hts _ hins) (hts _ hini) (g := F0 m pc la (st.map (rv G))) rfl hd (by show _ + 1 ≤ NC - h0.1.length; omega) (by show _ + N ≤ NS - sl h0; omega) (fun cC kC g1 g2 g3 g4 => ?_)
  cases hKn.2.1.symm.trans g1
  have hsz : (H.push { cls := (gD G).1 c, slots := kC.instanceTypes.map defaultValue, vm := .none }).size = H.size + 1 := by simp
  have hoq : ∀ q : Nat, q < H.size → (H.push { cls := (gD G).1 c, slots := kC.instanceTypes.map defaultValue, vm := .none })[q]? = H[q]? := fun q hq => by rw [Array.getElem?_push, if_neg (Nat.ne_of_lt hq)]
  have hce : (H.push (blank ((gD G).1 c) kC))[H.size]? = some (blank ((gD G).1 c) kC) := by simp
  have hob := u_born (mTy c) hts hin hKn g2 hce hty
  have hP' : Pic G (aN h c N) (H.push { cls := (gD G).1 c, slots := kC.instanceTypes.map defaultValue, vm := .none }) := by
    refine hP.new b1 b2 hsz hoq hce ⟨by simp [blank, g4], fun _ => rfl, fun _ => ⟨rfl, ⟨_, hcl, rfl⟩, fun k hk => ?_⟩, fun z => by omega, fun z => by omega, fun z => by omega⟩
    obtain ⟨ce, o1, o2, o3, o4⟩ := hob
    rw [hce] at o1
    cases o1
    rw [o4 k hk]
    unfold fv
    rw [okT_dflt (hok k hk)]
  have := k p e s m args below meth c' h0 _ locs la F ⟨by rw [hsz]; exact Nat.le_succ_of_le hS.1, fun q q1 q2 => (hoq q (Nat.lt_of_lt_of_le q1 hS.1)).trans (hS.2.1 q q1 q2), hS.2.2⟩ hP' hE.new hl
  rw [n1, n2] at this
  have hHs : rv G (.ref h.1.length) = .ref H.size := by rw [hP.1]; rfl
  rw [List.map_cons, hHs] at this
  exact this
theorem s_newarray {at9 : ArrayType} {c t0 : Nat} {n : Int32} {N : Nat} (hd : decode (jC j) pc = .ok (.newarray at9, 2)) (hat : (at9 = .int ∧ c = 100) ∨ (at9 = .byte ∧ c = 101) ∨ (at9 = .long ∧ c = 102)) (hw : Cond.arrayClass (newarray.typeOf at9) ∈ gT) (hn : ¬ n < 0) (hN : n.toNatClampNeg = N) (hB : N ≤ 100000) (b1 : h.1.length + 1 ≤ NC) (b2 : sl h + N ≤ NS) (k : Vw G j (pc + 2) ls (.ref h.1.length :: st) (aN h c N) Q) : Vw G j pc ls (.int n :: st) h Q := by
  intro p e s m args below meth c' h0 H locs la F hS hP hE hl
  have hts := F.2.2.2.2.2.2.1
  have hK := F.2.2.2.2.2.2.2.1.1
  obtain ⟨n1, n2⟩ := cnt_new (c := c) (n := N) hE
  obtain ⟨r, hr⟩ := id hE
  have hlen : h.1.length = h0.1.length + r.length := by rw [hr, List.length_append]
  have hsum : sl h = sl h0 + (r.map Prod.snd).sum := by unfold sl; rw [hr, List.map_append, List.sum_append]
  refine va_newaK (R := jRm j h0) (cells := h.1.length - h0.1.length) (slots := sl h - sl h0) F.1 F.2.1 (hts _ hw) (g := F0 m pc la ((.int n :: st).map (rv G))) rfl hd rfl hn hN (by rcases hat with ⟨e, -⟩ | ⟨e, -⟩ | ⟨e, -⟩ <;> subst e <;> simp [componentBytes, newarray.typeOf] <;> omega) (by show _ + 1 ≤ NC - h0.1.length; omega) (by show _ + N ≤ NS - sl h0; omega) rfl (fun H' cA e1 z1 o1 hAr hNm => ?_)
  have hP' : Pic G (aN h c N) H' := by
    refine hP.new b1 b2 z1 o1 e1 ⟨arrV_size _ _ _, fun _ => rfl, ?_, ?_, ?_, ?_⟩ <;> rcases hat with ⟨e, e'⟩ | ⟨e, e'⟩ | ⟨e, e'⟩ <;> subst e <;> subst e' <;> intro z
    all_goals first | omega | skip
    · have hc0 : s.vm.findClass ("[" ++ FieldType.int.toString) = some (gC G 0) := (hK.2 0 _ rfl).2
      cases hc0.symm.trans hNm
      congr 1
      funext i
      simp [aN, defaultValue, newarray.typeOf]
    · have hc0 : s.vm.findClass ("[" ++ FieldType.byte.toString) = some (gC G 1) := (hK.2 1 _ rfl).2
      cases hc0.symm.trans hNm
      congr 1
      funext i
      simp [aN, defaultValue, newarray.typeOf]
    · have hc0 : s.vm.findClass ("[" ++ FieldType.long.toString) = some (gC G 2) := (hK.2 2 _ rfl).2
      cases hc0.symm.trans hNm
      congr 1
      funext i
      simp [aN, defaultValue, newarray.typeOf]
  have := k p e s m args below meth c' h0 _ locs la F ⟨by rw [z1]; exact Nat.le_succ_of_le hS.1, fun q q1 q2 => (o1 q (Nat.lt_of_lt_of_le q1 hS.1)).trans (hS.2.1 q q1 q2), hS.2.2⟩ hP' hE.new hl
  rw [n1, n2] at this
  have hHs : rv G (.ref h.1.length) = .ref H.size := by rw [hP.1]; rfl
  rw [List.map_cons, hHs] at this
  exact this
end MAKES
