/-! ===== the mini machine: heaps by shapes and contents, frames, steps ===== -/
abbrev mH : Type := List (Nat × Nat) × (Nat → Nat → Int32) × (Nat → Nat → Int64) × (Nat → Nat → Value)
abbrev mO : Type := Option Value ⊕ String
/-- launch; the first new address; old addresses by number; where fields lie; the array classes -/
abbrev GX : Type := Launch × Nat × (Nat → Nat) × va_G × (Nat → ClassId)
abbrev gL (G : GX) : Launch := G.1
abbrev gZ (G : GX) : Nat := G.2.1
abbrev gO (G : GX) : Nat → Nat := G.2.2.1
abbrev gD (G : GX) : va_G := G.2.2.2.1
abbrev gC (G : GX) : Nat → ClassId := G.2.2.2.2
def gA (G : GX) : Nat → Prop := fun q => gZ G ≤ q
def NC : Nat := 1150
def NS : Nat := 21356
def sl (h : mH) : Nat := (h.1.map Prod.snd).sum
/-- a value of the mini machine as the machine has it: references count from the first new address; floats stand for old addresses -/
def rv (G : GX) (v : Value) : Value := match v with
  | .ref k => .ref (gZ G + k)
  | .float n => .ref (gO G n.toNat)
  | v => v
abbrev mCl : List vw_C := [(RX0, TX0, 6), (RX1, TX1, 11), (RX2, TX2, 11), (RX3, TX3, 7), (RX4, TX4, 2), (RX5, TX5, 3), (RX6, TX6, 9), (RX7, TX7, 7), (RX9, TX9, 10), (RX10, TX10, 17), (RX11, TX11, 61)]
def mTy (c : Nat) : Nat → FieldType := match c with
  | 0 => tyX0
  | 1 => tyX1
  | 2 => tyX2
  | 3 => tyX3
  | 4 => tyX4
  | 5 => tyX5
  | 6 => tyX6
  | 7 => tyX7
  | 8 => tyX9
  | 9 => tyX10
  | _ => tyX11
def fvT (t : FieldType) (h : mH) (o k : Nat) : Value := match t with
  | .int => .int (h.2.1 o k)
  | .boolean => .int (h.2.1 o k)
  | .long => .long (h.2.2.1 o k)
  | _ => h.2.2.2 o k
def fv (h : mH) (o c k : Nat) : Value := fvT (mTy c k) h o k
def mCell (G : GX) (h : mH) (o c n : Nat) (ce : Cell) : Prop :=
  ce.slots.size = n ∧ ce.vm = .none ∧
  (c < 11 → ce.cls = (gD G).1 c ∧ (∃ r, mCl[c]? = some r ∧ r.2.2 = n) ∧ ∀ k, k < n → ce.slots[(gD G).2 c k]? = some (rv G (fv h o c k))) ∧
  (c = 100 → ce = arrV (gC G 0) n (fun i => .int (h.2.1 o i))) ∧
  (c = 101 → ce = arrV (gC G 1) n (fun i => .int (h.2.1 o i))) ∧
  (c = 102 → ce = arrV (gC G 2) n (fun i => .long (h.2.2.1 o i)))
def Pic (G : GX) (h : mH) (H : Heap) : Prop := H.size = gZ G + h.1.length ∧ h.1.length ≤ NC ∧ sl h ≤ NS ∧ ∀ o c n, h.1[o]? = some (c, n) → ∃ ce, H[gZ G + o]? = some ce ∧ mCell G h o c n ce
def Ext (h h' : mH) : Prop := ∃ r, h'.1 = h.1 ++ r
/-- the strings: owner, entry, text -/
def gStr (G : GX) (sT : List (String × Nat × String)) (U : State) : Prop := ∀ n e, sT[n]? = some e → vk_R e.1 e.2.1 e.2.2 (gO G n) U
def gW (G : GX) (sT : List (String × Nat × String)) (U : State) : Prop := va_K (gD G) mCl [(gC G 0, .int), (gC G 1, .byte), (gC G 2, .long)] U ∧ vx_Zq Bundle.tN "UNASSIGNED_STACK" Bundle.steD (gA G) U U.heap ∧ vx_Zq Bundle.tN "SUPPRESSED_SENTINEL" Bundle.listD (gA G) U U.heap ∧ (gL G).stackTraces = false ∧ gStr G sT U
