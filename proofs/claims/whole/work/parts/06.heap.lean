section HEAPS
def gI (h : mH) (o k : Nat) : Int32 := h.2.1 o k
def gJ (h : mH) (o k : Nat) : Int64 := h.2.2.1 o k
def gR (h : mH) (o k : Nat) : Value := h.2.2.2 o k
/-- a row of ints anew -/
def pA (h : mH) (o : Nat) (f : Nat → Int32) : mH := (h.1, fun o' => if o' = o then f else h.2.1 o', h.2.2.1, h.2.2.2)
def pI (h : mH) (o k : Nat) (v : Int32) : mH := pA h o (upd (h.2.1 o) k v)
def pJ (h : mH) (o k : Nat) (v : Int64) : mH := (h.1, h.2.1, fun o' => if o' = o then vp_updL (h.2.2.1 o) k v else h.2.2.1 o', h.2.2.2)
def pR (h : mH) (o k : Nat) (v : Value) : mH := (h.1, h.2.1, h.2.2.1, fun o' => if o' = o then updV (h.2.2.2 o) k v else h.2.2.2 o')
variable {G : GX} {j : MX} {pc : Nat} {ls : mL} {st : List Value} {h : mH} {Q : mO → mH → Prop}
theorem fv_congr {h h' : mH} {o : Nat} (h1 : h'.2.1 o = h.2.1 o) (h2 : h'.2.2.1 o = h.2.2.1 o) (h3 : h'.2.2.2 o = h.2.2.2 o) (c k : Nat) : fv h' o c k = fv h o c k := by
  unfold fv fvT
  rw [h1, h2, h3]
theorem mCell.congr {h h' : mH} {o c n : Nat} {ce : Cell} (h1 : h'.2.1 o = h.2.1 o) (h2 : h'.2.2.1 o = h.2.2.1 o) (h3 : h'.2.2.2 o = h.2.2.2 o) (m : mCell G h o c n ce) : mCell G h' o c n ce := by
  obtain ⟨a1, a2, a3, a4, a5, a6⟩ := m
  refine ⟨a1, a2, fun hc => ⟨(a3 hc).1, (a3 hc).2.1, fun k hk => ?_⟩, ?_, ?_, ?_⟩
  · rw [fv_congr h1 h2 h3]; exact (a3 hc).2.2 k hk
  · rw [h1]; exact a4
  · rw [h1]; exact a5
  · rw [h2]; exact a6
theorem Pic.upd {h h' : mH} {H H' : Heap} {o c n : Nat} (hP : Pic G h H) (hs : h'.1 = h.1) (ho : h.1[o]? = some (c, n)) (hother : ∀ o', o' ≠ o → h'.2.1 o' = h.2.1 o' ∧ h'.2.2.1 o' = h.2.2.1 o' ∧ h'.2.2.2 o' = h.2.2.2 o') (z : H'.size = H.size) (oq : ∀ q : Nat, q ≠ gZ G + o → H'[q]? = H[q]?) {ce : Cell} (hce : H'[gZ G + o]? = some ce) (hm : mCell G h' o c n ce) : Pic G h' H' := by
  obtain ⟨p1, p2, p3, p4⟩ := hP
  refine ⟨by rw [z, hs]; exact p1, by rw [hs]; exact p2, by unfold sl; rw [hs]; exact p3, fun o' c' n' ho' => ?_⟩
  rw [hs] at ho'
  by_cases e : o' = o
  · subst e
    cases ho.symm.trans ho'
    exact ⟨ce, hce, hm⟩
  · obtain ⟨ce', q1, q2⟩ := p4 o' c' n' ho'
    obtain ⟨e1, e2, e3⟩ := hother o' e
    exact ⟨ce', by rw [oq _ (by omega)]; exact q1, q2.congr e1 e2 e3⟩
theorem gA_in {o : Nat} : gA G (gZ G + o) := Nat.le_add_right _ _
/-- a class of the mini machine: its fields' table, its words -/
def CL (c : Nat) (C : String) (T : u_T) (N : Nat) : Prop := c < 11 ∧ mCl[c]? = some (C, T, N) ∧ (∀ w ∈ u_ws C T N, w ∈ gT) ∧ (∀ k, k < N → parseFieldDescriptor (T k).2.2.1 = some (mTy c k)) ∧ (∀ a, a < N → ∀ b, b < N → a ≠ b → (T a).2.1 ≠ (T b).2.1)
/-- an entry of own's pool is field k of class c -/
def FL (own : String) (i c k : Nat) : Prop := ∃ C T N, CL c C T N ∧ k < N ∧ Cond.fieldLink own i (T k).1 (T k).2.1 (T k).2.2.1 ∈ gT
def FF (c k : Nat) (b : Bool) : Prop := ∀ C T N, mCl[c]? = some (C, T, N) → (T k).2.2.2 = b
theorem s_get {i c n k o : Nat} {v : Value} (hd : decode (jC j) pc = .ok (.getfield i, 3)) (hf : FL (jY j).cls i c k) (ho : h.1[o]? = some (c, n)) (hv : fv h o c k = v) (kk : Vw G j (pc + 3) ls (v :: st) h Q) : Vw G j pc ls (.ref o :: st) h Q := by
  intro p e s m args below meth c' h0 H locs la F hS hP hE hl
  obtain ⟨C, T, N, ⟨hc, hcl, hin, hty, hnm⟩, hk, hlk⟩ := hf
  obtain ⟨ce, q1, q2, q3, q4, -⟩ := hP.2.2.2 o c n ho
  obtain ⟨g1, ⟨r, g2, g3⟩, g4⟩ := q4 hc
  cases hcl.symm.trans g2
  have hN : N = n := g3
  subst hN
  have hts := F.2.2.2.2.2.2.1
  have hK := F.2.2.2.2.2.2.2.1.1
  obtain ⟨hSl, hfc, kC, hkC, hkind⟩ := hK.1 c _ hcl
  obtain ⟨cf, kf, fi, f, hi, hsl⟩ := hSl k hk
  refine W.getf F.1 F.2.1 F.2.2.2.2.2.1 (hts _ hlk) hi (u_facts hfc hkC (u_lays hts hin hk) hi).1 q1 (by rw [q3 (by omega)]; exact fun h => by cases h) (v := rv G v) ?_ rfl rfl hd (kk p e s m args below meth c' h0 H locs la F hS hP hE hl)
  rw [hsl, g4 k hk, hv]
theorem s_getI {i c n k o : Nat} (hd : decode (jC j) pc = .ok (.getfield i, 3)) (hf : FL (jY j).cls i c k) (ht : mTy c k = .int ∨ mTy c k = .boolean) (ho : h.1[o]? = some (c, n)) (kk : Vw G j (pc + 3) ls (.int (gI h o k) :: st) h Q) : Vw G j pc ls (.ref o :: st) h Q :=
  s_get hd hf ho (by unfold fv fvT; rcases ht with e | e <;> rw [e] <;> rfl) kk
theorem s_getJ {i c n k o : Nat} (hd : decode (jC j) pc = .ok (.getfield i, 3)) (hf : FL (jY j).cls i c k) (ht : mTy c k = .long) (ho : h.1[o]? = some (c, n)) (kk : Vw G j (pc + 3) ls (.long (gJ h o k) :: st) h Q) : Vw G j pc ls (.ref o :: st) h Q :=
  s_get hd hf ho (by unfold fv fvT; rw [ht]; rfl) kk
def isRefT (t : FieldType) : Bool := match t with
  | .array _ => true
  | .object _ => true
  | _ => false
theorem fvT_ref {t : FieldType} (ht : isRefT t = true) (h : mH) (o k : Nat) : fvT t h o k = gR h o k := by
  cases t <;> first | rfl | cases ht
theorem s_getR {i c n k o : Nat} {v : Value} (hd : decode (jC j) pc = .ok (.getfield i, 3)) (hf : FL (jY j).cls i c k) (ht : isRefT (mTy c k) = true) (ho : h.1[o]? = some (c, n)) (hr : gR h o k = v) (kk : Vw G j (pc + 3) ls (v :: st) h Q) : Vw G j pc ls (.ref o :: st) h Q :=
  s_get hd hf ho (by unfold fv; rw [fvT_ref ht]; exact hr) kk
/-- a field is written: the new heap has v there, and all else as it was -/
theorem s_put {i c n k o : Nat} {v : Value} {h' : mH} (b : Bool) (hd : decode (jC j) pc = .ok (.putfield i, 3)) (hf : FL (jY j).cls i c k) (hb : FF c k b) (hbi : b = true → (jY j).name = "<init>" ∧ ∀ C T N, mCl[c]? = some (C, T, N) → (T k).1 = (jY j).cls) (ho : h.1[o]? = some (c, n))
    (hn : narrow (mTy c k) (rv G v) = rv G v) (hfit : fits (mTy c k) (rv G v) = true)
    (hs : h'.1 = h.1) (hother : ∀ o', o' ≠ o → h'.2.1 o' = h.2.1 o' ∧ h'.2.2.1 o' = h.2.2.1 o' ∧ h'.2.2.2 o' = h.2.2.2 o') (hk1 : fv h' o c k = v) (hk2 : ∀ k', k' ≠ k → fv h' o c k' = fv h o c k')
    (kk : Vw G j (pc + 3) ls st h' Q) : Vw G j pc ls (v :: .ref o :: st) h Q := by
  intro p e s m args below meth c' h0 H locs la F hS hP hE hl
  obtain ⟨C, T, N, ⟨hc, hcl, hin, hty, hnm⟩, hk, hlk⟩ := hf
  obtain ⟨ce, q1, q2, q3, q4, q5, q6, q7⟩ := hP.2.2.2 o c n ho
  obtain ⟨g1, ⟨r, g2, g3⟩, g4⟩ := q4 hc
  cases hcl.symm.trans g2
  have hN : N = n := g3
  subst hN
  have hts := F.2.2.2.2.2.2.1
  have hK := F.2.2.2.2.2.2.2.1.1
  have hap := va_apart (own := "") hts hin (mTy c) hty hnm hK hcl
  obtain ⟨hSl, hfc, kC, hkC, hkind⟩ := hK.1 c _ hcl
  obtain ⟨cf, kf, fi, f, hi, hsl⟩ := hSl k hk
  have hlay := hts _ (hin _ (u_in_lay hk))
  have hst := (u_facts hfc hkC (u_lays hts hin hk) hi).1
  have hlt : f.slot < ce.slots.size := by rw [hsl]; exact k2_hasslot (g4 k hk)
  have fin : ∀ H' : Heap, H'[gZ G + o]? = some (ce.setSlot f.slot (rv G v)) → H'.size = H.size → (∀ q, q ≠ gZ G + o → H'[q]? = H[q]?) → W p (gL G) e (jRm j h0) s m args below meth c' H' (locs ++ [⟨gZ G + o, f.slot⟩]) (h.1.length - h0.1.length) (sl h - sl h0) (vx_MQ below (qR G h0 Q) (qX G h0 Q) args s (NC - h0.1.length) (NS - sl h0) (gA G)) (F0 m (pc + 3) la (st.map (rv G))) := by
    intro H' e1 e2 e3
    have hP' : Pic G h' H' := by
      refine hP.upd hs ho hother e2 e3 e1 ⟨by rw [← q2]; simp [Cell.setSlot], q3, fun _ => ⟨g1, ⟨_, hcl, rfl⟩, fun k' hk' => ?_⟩, fun z => ?_, fun z => ?_, fun z => ?_⟩
      · have := t_set g4 hap hk (rv G v) k' hk'
        rw [hsl, this]
        unfold updV
        by_cases e : k' = k
        · subst e; rw [if_pos rfl, hk1]
        · rw [if_neg e, hk2 k' e]
      · omega
      · omega
      · omega
    have hsl' : sl h' = sl h := by unfold sl; rw [hs]
    have := kk p e s m args below meth c' h0 H' (locs ++ [⟨gZ G + o, f.slot⟩]) la F (hS.put e2 e3 gA_in) hP' (by obtain ⟨r, hr⟩ := hE; exact ⟨r, by rw [hs]; exact hr⟩) hl
    rw [hs, hsl'] at this
    exact this
  cases b with
  | false =>
    unfold u_lay at hlay
    rw [if_neg (by rw [hb C T N hcl]; decide)] at hlay
    have h6 := u_store hfc hkC hkind hlay hi (hty k hk) hn hfit
    exact W.putK F.1 F.2.1 (f := f) ⟨F.2.2.2.2.2.1, hts _ hlk, ⟨_, _, _, hi⟩, hst⟩ (by rw [g1]; exact h6) q1 (q3 (by omega)) hlt rfl rfl hd fin
  | true =>
    unfold u_lay at hlay
    rw [if_pos (hb C T N hcl)] at hlay
    obtain ⟨hin2, hdecl⟩ := hbi rfl
    have hcf : m.cls = cf := by
      obtain ⟨_, _, c9, _, _, _, -, -, hf', -, -, -, hown2, -⟩ := Cond.laysFinal_spec hlay
      have e1 : c9 = cf := by have := hi.symm.trans hf'; simp at this; exact this.1.symm
      rw [hdecl C T N hcl] at hown2
      rw [← e1]; exact Option.some.inj (F.2.2.2.2.2.1.symm.trans hown2)
    have h6 := u_fits hfc hkC hkind (Or.inr hlay) hi (hty k hk) hn hfit
    exact W.putFinK F.1 F.2.1 F.2.2.2.2.2.1 (hts _ hlk) hi hst hcf (F.2.2.2.2.2.2.2.2.2.1.trans hin2) (by rw [g1]; exact h6) q1 (q3 (by omega)) hlt rfl rfl hd fin
end HEAPS
