/-! ===== the mini machine: heaps by shapes and contents, frames, steps ===== -/
abbrev mH : Type := List (Nat × Nat) × (Nat → Nat → Int32) × (Nat → Nat → Int64) × (Nat → Nat → Value)
abbrev mO : Type := Option Value ⊕ String
/-- launch; the first new address; old addresses by number; where fields lie; the array classes -/
abbrev GX : Type := Launch × Nat × (Nat → Nat) × va_G × (Nat → ClassId) × Nat × (Nat → Int32)
abbrev gL (G : GX) : Launch := G.1
abbrev gZ (G : GX) : Nat := G.2.1
abbrev gO (G : GX) : Nat → Nat := G.2.2.1
abbrev gD (G : GX) : va_G := G.2.2.2.1
abbrev gC (G : GX) : Nat → ClassId := G.2.2.2.2.1
abbrev gN (G : GX) : Nat := G.2.2.2.2.2.1
abbrev gX (G : GX) : Nat → Int32 := G.2.2.2.2.2.2
def gA (G : GX) : Nat → Prop := fun q => gZ G ≤ q
def NC : Nat := 1150
def NS : Nat := 21356
def sl (h : mH) : Nat := (h.1.map Prod.snd).sum
/-- a value of the mini machine as the machine has it: references count from the first new address; floats stand for old addresses -/
def rv (G : GX) (v : Value) : Value := match v with
  | .ref k => .ref (gZ G + k)
  | .float n => .ref (gO G n.toNat)
  | v => v
abbrev mCl : List vw_C := [(RX0, TX0, 6), (RX1, TX1, 11), (RX2, TX2, 11), (RX3, TX3, 7), (RX4, TX4, 2), (RX5, TX5, 3), (RX6, TX6, 9), (RX7, TX7, 7), (RX9, TX9, 10), (RX10, TX10, 17), (RX11, TX11, 61)]
def mTy (c : Nat) : Nat → FieldType := match c with
  | 0 => tyX0
  | 1 => tyX1
  | 2 => tyX2
  | 3 => tyX3
  | 4 => tyX4
  | 5 => tyX5
  | 6 => tyX6
  | 7 => tyX7
  | 8 => tyX9
  | 9 => tyX10
  | _ => tyX11
def fvT (t : FieldType) (h : mH) (o k : Nat) : Value := match t with
  | .int => .int (h.2.1 o k)
  | .boolean => .int (h.2.1 o k)
  | .long => .long (h.2.2.1 o k)
  | _ => h.2.2.2 o k
def fv (h : mH) (o c k : Nat) : Value := fvT (mTy c k) h o k
def mCell (G : GX) (h : mH) (o c n : Nat) (ce : Cell) : Prop :=
  ce.slots.size = n ∧ (c < 200 → ce.vm = .none) ∧
  (c < 11 → ce.cls = (gD G).1 c ∧ (∃ r, mCl[c]? = some r ∧ r.2.2 = n) ∧ ∀ k, k < n → ce.slots[(gD G).2 c k]? = some (rv G (fv h o c k))) ∧
  (c = 100 → ce = arrV (gC G 0) n (fun i => .int (h.2.1 o i))) ∧
  (c = 101 → ce = arrV (gC G 1) n (fun i => .int (h.2.1 o i))) ∧
  (c = 102 → ce = arrV (gC G 2) n (fun i => .long (h.2.2.1 o i)))
def Pic (G : GX) (h : mH) (H : Heap) : Prop := H.size = gZ G + h.1.length ∧ h.1.length ≤ NC ∧ sl h ≤ NS ∧ ∀ o c n, h.1[o]? = some (c, n) → ∃ ce, H[gZ G + o]? = some ce ∧ mCell G h o c n ce
def Ext (h h' : mH) : Prop := ∃ r, h'.1 = h.1 ++ r
def sTab : List (String × Nat × String) := [("PenSwings", 374, "the tape has not so many bytes"), ("PenSwings$SwingsText", 20, "pennies"), ("PenSwings$SwingsText", 40, "pendulum"), ("PenSwings$SwingsText", 85, "even"), ("PenSwings$SwingsText", 87, "bowl"), ("PenSwings$SwingsText", 89, "kick"), ("PenSwings$SwingsText", 45, "cart"), ("PenSwings$Score", 122, "else"), ("PenSwings$Score", 79, "draw"), ("PenSwings$Score", 85, "lift"), ("PenSwings$Score", 87, "penny"), ("PenSwings$Score", 89, "size"), ("PenSwings$Score", 90, "turn"), ("PenSwings$Score", 92, "repeat"), ("PenSwings$Score", 94, "when"), ("PenSwings$Score", 106, "not"), ("PenSwings$Score", 111, "marked"), ("PenSwings$Score", 113, "right"), ("PenSwings$Score", 115, "above"), ("PenSwings$Score", 117, "loud"), ("PenSwings", 381, "no such question"), ("PenSwings", 383, "no such cell"), ("PenSwings", 379, "no such pendulum"), ("PenSwings", 385, "no tick"), ("PenSwings", 387, "no such span of ticks"), ("PenSwings", 377, "no such portrait"), ("PenSwings", 389, "a number is not as told"), ("PenSwings", 344, "no such drawing is kept")]
/-- the strings: owner, entry, text -/
def gStr (G : GX) (U : State) : Prop := ∀ (n : Nat) (e : String × Nat × String), sTab[n]? = some e → vk_R e.1 e.2.1 e.2.2 (gO G n) U
/-- their contents: the byte array of string n is the old thing 100 + n -/
def gStx (G : GX) (U : State) (H : Heap) : Prop := ∀ (n : Nat) (e : String × Nat × String), sTab[n]? = some e → va_O "java/lang/String" (gO G n) (gA G) U H ∧ va_OF "java/lang/String" "coder" "B" (.int 0) (gO G n) (gA G) U H ∧ va_OF "java/lang/String" "value" "[B" (.ref (gO G (100 + n))) (gO G n) (gA G) U H ∧ va_T .byte (gO G (100 + n)) e.2.2.length (fun j => .int (Int32.ofNat (e.2.2.toList.getD j 'a').toNat)) (gA G) U H
/-- the formatter of the JDK's index check: null, or the old thing 1001 -/
def gFmt (G : GX) (U : State) (H : Heap) : Prop := va_Z "jdk/internal/util/Preconditions" "SIOOBE_FORMATTER" "Ljava/util/function/BiFunction;" .null (gA G) U H ∨ va_Z "jdk/internal/util/Preconditions" "SIOOBE_FORMATTER" "Ljava/util/function/BiFunction;" (.ref (gO G 1001)) (gA G) U H
def cNot : Cond := .not (.castable "java/lang/IllegalArgumentException" "java/util/NoSuchElementException")
def gCast (U : State) : Prop := cNot.before #[] U = true
theorem gFmt.move {G : GX} {s U : State} {H H1 : Heap} (h : gFmt G s H) (hv : s.vm.Alike U.vm) (hq : ∀ a : Nat, a < H.size → ¬ gA G a → H1[a]? = H[a]?) : gFmt G U H1 := h.elim (fun z => Or.inl ((z.moved hv).kept hq)) (fun z => Or.inr ((z.moved hv).kept hq))
theorem gCast.move {s U : State} (h : gCast s) (hv : s.vm.Alike U.vm) : gCast U := by
  have h1 : cNot.before #[] (s.setVm U.vm) = true := Cond.castAtom_setVm hv cNot rfl h
  exact h1
def mvb (w : Cond) : Bool := w.onTables && (w.keepsFace || (match w with | .methodLinkNest .. => true | _ => false))
/-- the words of the tables that stay true as the tables grow warmer -/
def gF (U : State) : Prop := ∀ w ∈ lw_tbl, mvb w = true → va_Nw w U
def gW (G : GX) (U : State) : Prop := va_K (gD G) mCl [(gC G 0, .int), (gC G 1, .byte), (gC G 2, .long)] U ∧ vx_Zq Bundle.tN "UNASSIGNED_STACK" Bundle.steD (gA G) U U.heap ∧ vx_Zq Bundle.tN "SUPPRESSED_SENTINEL" Bundle.listD (gA G) U U.heap ∧ (gL G).stackTraces = false ∧ gStr G U ∧ gStx G U U.heap ∧ gF U ∧ va_Z "java/lang/String" "COMPACT_STRINGS" "Z" (.int 1) (gA G) U U.heap ∧ (va_X (gO G 1000) (gN G) (gX G) U U.heap ∧ gO G 1000 < gZ G) ∧ gFmt G U U.heap ∧ gCast U
theorem mvb_move {w : Cond} {s U : State} (hm : mvb w = true) (hW : s.WarmedH U.vm) (h : va_Nw w s) : va_Nw w U := by
  unfold mvb at hm
  rw [Bool.and_eq_true, Bool.or_eq_true] at hm
  obtain ⟨h1, h2⟩ := hm
  rcases h2 with h2 | h2
  · exact va_tabs h1 (rfl : (s.setVm U.vm).vm = U.vm) (Cond.before_shiftedFace (State.Shifted.of_warmed hW) w h2 h)
  · split at h2
    · exact va_Nw.warmM hW h
    · cases h2
theorem gW.move {G : GX} {s U : State} (h : gW G s) (hW : s.WarmedH U.vm) (hz : gZ G ≤ s.heap.size) (ho : ∀ q, q < gZ G → U.heap[q]? = s.heap[q]?) : gW G U := by
  obtain ⟨h1, h2, h3, h4, h5, h6, h7, h8, ⟨h9, h10⟩, h11, h12⟩ := h
  have ok : ∀ a : Nat, a < s.heap.size → ¬ gA G a → U.heap[a]? = s.heap[a]? := fun a _ hn => ho a (Nat.not_le.mp hn)
  exact ⟨h1.moved hW.alike, (h2.moved hW.alike).kept ok, (h3.moved hW.alike).kept ok, h4, fun n e he => (h5 n e he).warm hW, fun n e he => ⟨((h6 n e he).1.moved hW.alike).kept ok, ((h6 n e he).2.1.moved hW.alike).kept ok, ((h6 n e he).2.2.1.moved hW.alike).kept ok, ((h6 n e he).2.2.2.moved hW.alike).kept ok⟩,
    fun w hw hm => mvb_move hm hW (h7 w hw hm), (h8.moved hW.alike).kept ok, ⟨(h9.moved hW.alike).kept (ho _ h10), h10⟩, h11.move hW.alike ok, h12.move hW.alike⟩
/-- methods: name, bytes, locals, answer's type, room (frames, words), handlers -/
abbrev MX : Type := MethodName × ByteArray × Nat × Option FieldType × (Nat × Nat) × List (Nat × Nat × Nat × Nat)
abbrev jY (j : MX) : MethodName := j.1
abbrev jC (j : MX) : ByteArray := j.2.1
abbrev jL (j : MX) : Nat := j.2.2.1
abbrev jR (j : MX) : Option FieldType := j.2.2.2.1
abbrev jF (j : MX) : Nat := j.2.2.2.2.1.1
abbrev jW (j : MX) : Nat := j.2.2.2.2.1.2
abbrev jT (j : MX) : List (Nat × Nat × Nat × Nat) := j.2.2.2.2.2
def gT : List Cond := lw_tbl.filter goodWord
theorem gT_in {w : Cond} (h : w ∈ lw_tbl) (hg : goodWord w = true) : w ∈ gT := List.mem_filter.mpr ⟨h, hg⟩
theorem gT_good {w : Cond} (h : w ∈ gT) : goodWord w = true := (List.mem_filter.mp h).2
def jK (j : MX) : Cond := match jT j with
  | [] => .code (jY j) (jC j) (jL j) (jR j)
  | hh => .codeWith (jY j) (jC j) (jL j) (jR j) hh
def jWs (j : MX) : List Cond := jK j :: gT
def jRm (j : MX) (h : mH) : Room := { frames := jF j, cells := NC - h.1.length, slots := NS - sl h, locals := jW j }
def Fr (G : GX) (j : MX) (h0 : mH) (p : Program) (s : State) (m : MethodId) (args : Array Value) (meth : Method) (c : Code) : Prop :=
  p.tables.exec = Jvm.exec ∧ c.code = jC j ∧ c.maxLocals = jL j ∧ meth.sig.returnType = jR j ∧ meth.locks = false ∧ s.vm.findClass (jY j).cls = some m.cls ∧ (∀ w ∈ gT, w.before args s = true) ∧ gW G s ∧ Pic G h0 s.heap ∧ meth.name = (jY j).name ∧ c.exceptionTable.toList = tableOf (jT j)
def qR (G : GX) (h0 : mH) (Q : mO → mH → Prop) : Array Value → State → Outcome → State → Prop := fun _ st o t => ∃ v h, o = .returned (Option.map (rv G) v) ∧ Q (.inl v) h ∧ Pic G h t.heap ∧ Ext h0 h ∧ ∀ q, q < gZ G → t.heap[q]? = st.heap[q]?
def qX (G : GX) (h0 : mH) (Q : mO → mH → Prop) : String → State → State → Prop := fun E st t => ∃ h, Q (.inr E) h ∧ Pic G h t.heap ∧ Ext h0 h ∧ ∀ q, q < gZ G → t.heap[q]? = st.heap[q]?
abbrev mL : Type := List (Option Value)
def mLs (G : GX) (nL : Nat) (ls : mL) (la : Array Slot) : Prop := la.size = nL ∧ lv_wf la ∧ ∀ (i : Nat) (v : Value), ls[i]? = some (some v) → la[i]? = some (Slot.val (rv G v))
/-- the method j at pc, with locals, stack and heap: it comes to an end with Q -/
def Vw (G : GX) (j : MX) (pc : Nat) (ls : mL) (st : List Value) (h : mH) (Q : mO → mH → Prop) : Prop :=
  ∀ (p : Program) (e : Env) (s : State) (m : MethodId) (args : Array Value) (below : List Frame) (meth : Method) (c : Code) (h0 : mH) (H : Heap) (locs : List Loc) (la : Array Slot),
    Fr G j h0 p s m args meth c → va_S (gA G) s.heap H locs → Pic G h H → Ext h0 h → mLs G (jL j) ls la →
    W p (gL G) e (jRm j h0) s m args below meth c H locs (h.1.length - h0.1.length) (sl h - sl h0) (vx_MQ below (qR G h0 Q) (qX G h0 Q) args s (NC - h0.1.length) (NS - sl h0) (gA G)) (F0 m pc la (st.map (rv G)))
/-- the method j, called: it comes to an end with Q -/
def WM (G : GX) (j : MX) (a : List Value) (h : mH) (Q : mO → mH → Prop) : Prop :=
  vx_Met (gL G) (jY j) (jWs j) (jRm j h) (fun v U => v = (a.map (rv G)).toArray ∧ gW G U ∧ Pic G h U.heap) (qR G h Q) (qX G h Q) (NC - h.1.length) (NS - sl h) (gA G)
