section HEAPS2
variable {G : GX} {j : MX} {pc : Nat} {ls : mL} {st : List Value} {h : mH} {Q : mO → mH → Prop}
theorem pA_other (h : mH) (o : Nat) (f : Nat → Int32) : ∀ o', o' ≠ o → (pA h o f).2.1 o' = h.2.1 o' ∧ (pA h o f).2.2.1 o' = h.2.2.1 o' ∧ (pA h o f).2.2.2 o' = h.2.2.2 o' := fun o' e => ⟨by simp [pA, e], rfl, rfl⟩
theorem pA_self (h : mH) (o : Nat) (f : Nat → Int32) : (pA h o f).2.1 o = f := by simp [pA]
theorem pJ_other (h : mH) (o k : Nat) (v : Int64) : ∀ o', o' ≠ o → (pJ h o k v).2.1 o' = h.2.1 o' ∧ (pJ h o k v).2.2.1 o' = h.2.2.1 o' ∧ (pJ h o k v).2.2.2 o' = h.2.2.2 o' := fun o' e => ⟨rfl, by simp [pJ, e], rfl⟩
theorem pR_other (h : mH) (o k : Nat) (v : Value) : ∀ o', o' ≠ o → (pR h o k v).2.1 o' = h.2.1 o' ∧ (pR h o k v).2.2.1 o' = h.2.2.1 o' ∧ (pR h o k v).2.2.2 o' = h.2.2.2 o' := fun o' e => ⟨rfl, rfl, by simp [pR, e]⟩
theorem fv_pI {h : mH} {o c k : Nat} {v : Int32} (ht : mTy c k = .int ∨ mTy c k = .boolean) : fv (pI h o k v) o c k = .int v ∧ ∀ k', k' ≠ k → fv (pI h o k v) o c k' = fv h o c k' := by
  refine ⟨?_, fun k' e => ?_⟩
  · unfold fv fvT pI
    rcases ht with q | q <;> rw [q] <;> simp [pA, upd]
  · unfold fv fvT pI
    have : (pA h o (upd (h.2.1 o) k v)).2.1 o k' = h.2.1 o k' := by simp [pA, upd, e]
    rw [this]
    rfl
theorem fv_pJ {h : mH} {o c k : Nat} {v : Int64} (ht : mTy c k = .long) : fv (pJ h o k v) o c k = .long v ∧ ∀ k', k' ≠ k → fv (pJ h o k v) o c k' = fv h o c k' := by
  refine ⟨?_, fun k' e => ?_⟩
  · unfold fv fvT
    rw [ht]
    simp [pJ, vp_updL]
  · unfold fv fvT
    have : (pJ h o k v).2.2.1 o k' = h.2.2.1 o k' := by simp [pJ, vp_updL, e]
    rw [this]
    rfl
theorem fv_pR {h : mH} {o c k : Nat} {v : Value} (ht : isRefT (mTy c k) = true) : fv (pR h o k v) o c k = v ∧ ∀ k', k' ≠ k → fv (pR h o k v) o c k' = fv h o c k' := by
  refine ⟨?_, fun k' e => ?_⟩
  · unfold fv
    rw [fvT_ref ht]
    simp [gR, pR, updV]
  · unfold fv fvT
    have : (pR h o k v).2.2.2 o k' = h.2.2.2 o k' := by simp [pR, updV, e]
    rw [this]
    rfl
theorem s_putI {i c n k o : Nat} {x : Int32} (hd : decode (jC j) pc = .ok (.putfield i, 3)) (hf : FL (jY j).cls i c k) (hb : FF c k false) (ht : mTy c k = .int) (ho : h.1[o]? = some (c, n)) (kk : Vw G j (pc + 3) ls st (pI h o k x) Q) : Vw G j pc ls (.int x :: .ref o :: st) h Q :=
  s_put (h' := pI h o k x) false hd hf hb (fun z => by cases z) ho (by rw [ht]; rfl) (by rw [ht]; rfl) rfl (pA_other h o _) (fv_pI (Or.inl ht)).1 (fv_pI (Or.inl ht)).2 kk
theorem s_putZ {i c n k o : Nat} {x : Int32} (hd : decode (jC j) pc = .ok (.putfield i, 3)) (hf : FL (jY j).cls i c k) (hb : FF c k false) (ht : mTy c k = .boolean) (ho : h.1[o]? = some (c, n)) (hx : x = 0 ∨ x = 1) (kk : Vw G j (pc + 3) ls st (pI h o k x) Q) : Vw G j pc ls (.int x :: .ref o :: st) h Q :=
  s_put (h' := pI h o k x) false hd hf hb (fun z => by cases z) ho (by rw [ht]; rcases hx with e | e <;> subst e <;> rfl) (by rw [ht]; rcases hx with e | e <;> subst e <;> rfl) rfl (pA_other h o _) (fv_pI (Or.inr ht)).1 (fv_pI (Or.inr ht)).2 kk
theorem s_putJ {i c n k o : Nat} {x : Int64} (hd : decode (jC j) pc = .ok (.putfield i, 3)) (hf : FL (jY j).cls i c k) (hb : FF c k false) (ht : mTy c k = .long) (ho : h.1[o]? = some (c, n)) (kk : Vw G j (pc + 3) ls st (pJ h o k x) Q) : Vw G j pc ls (.long x :: .ref o :: st) h Q :=
  s_put (h' := pJ h o k x) false hd hf hb (fun z => by cases z) ho (by rw [ht]; rfl) (by rw [ht]; rfl) rfl (pJ_other h o k _) (fv_pJ ht).1 (fv_pJ ht).2 kk
theorem isRefT_nar {t : FieldType} (ht : isRefT t = true) (a : Nat) : narrow t (.ref a) = .ref a ∧ fits t (.ref a) = true := by
  cases t <;> first | exact ⟨rfl, rfl⟩ | cases ht
theorem s_putR {i c n k o r : Nat} (b : Bool) (hd : decode (jC j) pc = .ok (.putfield i, 3)) (hf : FL (jY j).cls i c k) (hb : FF c k b) (hbi : b = true → (jY j).name = "<init>" ∧ ∀ C T N, mCl[c]? = some (C, T, N) → (T k).1 = (jY j).cls) (ht : isRefT (mTy c k) = true) (ho : h.1[o]? = some (c, n)) (kk : Vw G j (pc + 3) ls st (pR h o k (.ref r)) Q) : Vw G j pc ls (.ref r :: .ref o :: st) h Q :=
  s_put (h' := pR h o k (.ref r)) b hd hf hb hbi ho (isRefT_nar ht _).1 (isRefT_nar ht _).2 rfl (pR_other h o k _) (fv_pR ht).1 (fv_pR ht).2 kk
/-- arrays -/
theorem s_iaload {i : Int32} {a n : Nat} (hd : decode (jC j) pc = .ok (.iaload, 1)) (ho : h.1[a]? = some (100, n)) (hi : vp_in i n) (kk : Vw G j (pc + 1) ls (.int (gI h a i.toNatClampNeg) :: st) h Q) : Vw G j pc ls (.int i :: .ref a :: st) h Q := by
  intro p e s m args below meth c' h0 H locs la F hS hP hE hl
  obtain ⟨ce, q1, q2, q3, -, q5, -⟩ := hP.2.2.2 a _ n ho
  rw [q5 rfl] at q1
  have hK := F.2.2.2.2.2.2.2.1.1
  exact va_iald (ws := [(gZ G + a, .inl (gC G 0, n, .inl (fun i => h.2.1 a i)))]) F.1 F.2.1 hK (fun k q hk => by cases k with | zero => cases hk; exact q1 | succ k => cases hk) 0 0 rfl rfl hi hd (kk p e s m args below meth c' h0 H locs la F hS hP hE hl)
theorem s_baload {i : Int32} {a n : Nat} (hd : decode (jC j) pc = .ok (.baload, 1)) (ho : h.1[a]? = some (101, n)) (hi : vp_in i n) (kk : Vw G j (pc + 1) ls (.int (gI h a i.toNatClampNeg) :: st) h Q) : Vw G j pc ls (.int i :: .ref a :: st) h Q := by
  intro p e s m args below meth c' h0 H locs la F hS hP hE hl
  obtain ⟨ce, q1, q2, q3, -, -, q6, -⟩ := hP.2.2.2 a _ n ho
  rw [q6 rfl] at q1
  have hK := F.2.2.2.2.2.2.2.1.1
  exact va_bald (ws := [(gZ G + a, .inl (gC G 1, n, .inl (fun i => h.2.1 a i)))]) F.1 F.2.1 hK (fun k q hk => by cases k with | zero => cases hk; exact q1 | succ k => cases hk) 0 1 rfl rfl hi hd (kk p e s m args below meth c' h0 H locs la F hS hP hE hl)
theorem s_laload {i : Int32} {a n : Nat} (hd : decode (jC j) pc = .ok (.laload, 1)) (ho : h.1[a]? = some (102, n)) (hi : vp_in i n) (kk : Vw G j (pc + 1) ls (.long (gJ h a i.toNatClampNeg) :: st) h Q) : Vw G j pc ls (.int i :: .ref a :: st) h Q := by
  intro p e s m args below meth c' h0 H locs la F hS hP hE hl
  obtain ⟨ce, q1, q2, q3, -, -, -, q7⟩ := hP.2.2.2 a _ n ho
  rw [q7 rfl] at q1
  have hK := F.2.2.2.2.2.2.2.1.1
  exact va_lald (ws := [(gZ G + a, .inl (gC G 2, n, .inr (.inl (fun i => h.2.2.1 a i))))]) F.1 F.2.1 hK (fun k q hk => by cases k with | zero => cases hk; exact q1 | succ k => cases hk) 0 2 rfl rfl hi hd (kk p e s m args below meth c' h0 H locs la F hS hP hE hl)
theorem s_alen {a n c : Nat} (hd : decode (jC j) pc = .ok (.arraylength, 1)) (ho : h.1[a]? = some (c, n)) (hc : c = 100 ∨ c = 101 ∨ c = 102) (kk : Vw G j (pc + 1) ls (.int (Int32.ofNat n) :: st) h Q) : Vw G j pc ls (.ref a :: st) h Q := by
  intro p e s m args below meth c' h0 H locs la F hS hP hE hl
  obtain ⟨ce, q1, q2, q3, -, q5, q6, q7⟩ := hP.2.2.2 a _ n ho
  have hK := F.2.2.2.2.2.2.2.1.1
  rcases hc with e9 | e9 | e9 <;> subst e9
  · rw [q5 rfl] at q1
    exact va_alen (ws := [(gZ G + a, .inl (gC G 0, n, .inl (fun i => h.2.1 a i)))]) F.1 F.2.1 hK (fun k q hk => by cases k with | zero => cases hk; exact q1 | succ k => cases hk) 0 0 rfl (ty := .int) rfl rfl hd (kk p e s m args below meth c' h0 H locs la F hS hP hE hl)
  · rw [q6 rfl] at q1
    exact va_alen (ws := [(gZ G + a, .inl (gC G 1, n, .inl (fun i => h.2.1 a i)))]) F.1 F.2.1 hK (fun k q hk => by cases k with | zero => cases hk; exact q1 | succ k => cases hk) 0 1 rfl (ty := .byte) rfl rfl hd (kk p e s m args below meth c' h0 H locs la F hS hP hE hl)
  · rw [q7 rfl] at q1
    exact va_alen (ws := [(gZ G + a, .inl (gC G 2, n, .inr (.inl (fun i => h.2.2.1 a i))))]) F.1 F.2.1 hK (fun k q hk => by cases k with | zero => cases hk; exact q1 | succ k => cases hk) 0 2 rfl (ty := .long) rfl rfl hd (kk p e s m args below meth c' h0 H locs la F hS hP hE hl)
theorem s_iastore {i x : Int32} {a n : Nat} (hd : decode (jC j) pc = .ok (.iastore, 1)) (ho : h.1[a]? = some (100, n)) (hi : vp_in i n) (kk : Vw G j (pc + 1) ls st (pI h a i.toNatClampNeg x) Q) : Vw G j pc ls (.int x :: .int i :: .ref a :: st) h Q := by
  intro p e s m args below meth c' h0 H locs la F hS hP hE hl
  obtain ⟨ce, q1, q2, q3, q4, q5, q6, q7⟩ := hP.2.2.2 a _ n ho
  have hce := q5 rfl
  subst hce
  have hK := F.2.2.2.2.2.2.2.1.1
  refine W.iast F.1 F.2.1 q1 ((hK.2 0 _ rfl).1 n _) (fun z => by cases z) (by rw [arrV_size]; exact hi) rfl rfl hd (fun H' e1 e2 e3 => ?_)
  refine kk p e s m args below meth c' h0 H' _ la F (hS.put e2 e3 gA_in) (hP.upd rfl ho (pA_other h a _) e2 e3 e1 ?_) hE hl
  rw [arrV_store]
  refine ⟨arrV_size _ _ _, fun _ => rfl, fun z => by omega, fun _ => ?_, fun z => by omega, fun z => by omega⟩
  congr 1
  funext q
  by_cases hq : q = i.toNatClampNeg <;> simp [updV, pI, pA, upd, hq]
theorem s_bastore {i x : Int32} {a n : Nat} (hd : decode (jC j) pc = .ok (.bastore, 1)) (ho : h.1[a]? = some (101, n)) (hi : vp_in i n) (kk : Vw G j (pc + 1) ls st (pI h a i.toNatClampNeg x.toInt8.toInt32) Q) : Vw G j pc ls (.int x :: .int i :: .ref a :: st) h Q := by
  intro p e s m args below meth c' h0 H locs la F hS hP hE hl
  obtain ⟨ce, q1, q2, q3, q4, q5, q6, q7⟩ := hP.2.2.2 a _ n ho
  have hce := q6 rfl
  subst hce
  have hK := F.2.2.2.2.2.2.2.1.1
  refine W.bast F.1 F.2.1 q1 ((hK.2 1 _ rfl).1 n _) (fun z => by cases z) (by rw [arrV_size]; exact hi) rfl rfl hd (fun H' e1 e2 e3 => ?_)
  refine kk p e s m args below meth c' h0 H' _ la F (hS.put e2 e3 gA_in) (hP.upd rfl ho (pA_other h a _) e2 e3 e1 ?_) hE hl
  rw [arrV_store]
  refine ⟨arrV_size _ _ _, fun _ => rfl, fun z => by omega, fun z => by omega, fun _ => ?_, fun z => by omega⟩
  congr 1
  funext q
  have hnb : narrow .byte (.int x) = .int x.toInt8.toInt32 := by
    have := vp_nar_byte x
    simp [narrow] at this ⊢
  by_cases hq : q = i.toNatClampNeg <;> simp [updV, pI, pA, upd, hq, hnb]
theorem s_lastore {i : Int32} {x : Int64} {a n : Nat} (hd : decode (jC j) pc = .ok (.lastore, 1)) (ho : h.1[a]? = some (102, n)) (hi : vp_in i n) (kk : Vw G j (pc + 1) ls st (pJ h a i.toNatClampNeg x) Q) : Vw G j pc ls (.long x :: .int i :: .ref a :: st) h Q := by
  intro p e s m args below meth c' h0 H locs la F hS hP hE hl
  obtain ⟨ce, q1, q2, q3, q4, q5, q6, q7⟩ := hP.2.2.2 a _ n ho
  have hce := q7 rfl
  subst hce
  have hK := F.2.2.2.2.2.2.2.1.1
  refine W.last F.1 F.2.1 q1 ((hK.2 2 _ rfl).1 n _) (fun z => by cases z) (by rw [arrV_size]; exact hi) rfl rfl hd (fun H' e1 e2 e3 => ?_)
  refine kk p e s m args below meth c' h0 H' _ la F (hS.put e2 e3 gA_in) (hP.upd rfl ho (pJ_other h a _ _) e2 e3 e1 ?_) hE hl
  rw [arrV_store]
  refine ⟨arrV_size _ _ _, fun _ => rfl, fun z => by omega, fun z => by omega, fun z => by omega, fun _ => ?_⟩
  congr 1
  funext q
  by_cases hq : q = i.toNatClampNeg <;> simp [updV, pJ, vp_updL, hq]
/-- returns -/
theorem Vw.ret {v : Option Value} (hq : Q (.inl v) h) (row : ∀ (p : Program) (e : Env) (s : State) (m : MethodId) (args : Array Value) (below : List Frame) (meth : Method) (c : Code) (R : Room) (H : Heap) (locs : List Loc) (la : Array Slot) (cells slots : Nat) (Qc : Array Value → State → Outcome → State → Prop) (h0 : mH), Fr G j h0 p s m args meth c → (∀ t : State, t.heap = H → s.WarmedH t.vm → Qc args s (.returned (Option.map (rv G) v)) t) → (∀ q ∈ locs, gA G q.base) →
    W p (gL G) e R s m args below meth c H locs cells slots (MQ below Qc args s cells slots (gA G)) (F0 m pc la (st.map (rv G)))) : Vw G j pc ls st h Q := by
  intro p e s m args below meth c h0 H locs la F hS hP hE hl
  obtain ⟨r, hr⟩ := id hE
  have hlen : h.1.length - h0.1.length ≤ NC - h0.1.length := Nat.sub_le_sub_right hP.2.1 _
  have hsl : sl h - sl h0 ≤ NS - sl h0 := Nat.sub_le_sub_right hP.2.2.1 _
  refine W.widen hlen hsl (vx_ret (row p e s m args below meth c _ H locs la _ _ _ h0 F (fun t ht hW => ⟨v, h, rfl, hq, by rw [ht]; exact hP, hE, fun q hq => ?_⟩) hS.2.2))
  rw [ht]
  have hz : q < s.heap.size := by rw [F.2.2.2.2.2.2.2.2.1.1]; omega
  exact hS.2.1 q hz (fun z => absurd z (Nat.not_le.mpr hq))
theorem s_ireturn {v : Int32} (hd : decode (jC j) pc = .ok (.ireturn, 1)) (hr : jR j = some .int) (hq : Q (.inl (some (.int v))) h) : Vw G j pc ls [.int v] h Q :=
  Vw.ret hq (fun p e s m args below meth c R H locs la cells slots Qc h0 F q1 q2 => W.iret F.1 F.2.1 (F.2.2.2.1.trans hr) q1 q2 hd F.2.2.2.2.1)
theorem s_zreturn {v : Int32} (hd : decode (jC j) pc = .ok (.ireturn, 1)) (hr : jR j = some .boolean) (hv : v = 0 ∨ v = 1) (hq : Q (.inl (some (.int v))) h) : Vw G j pc ls [.int v] h Q :=
  Vw.ret hq (fun p e s m args below meth c R H locs la cells slots Qc h0 F q1 q2 => W.zret F.1 F.2.1 (F.2.2.2.1.trans hr) (by rcases hv with e | e <;> subst e <;> rfl) q1 q2 hd F.2.2.2.2.1)
theorem s_lreturn {v : Int64} (hd : decode (jC j) pc = .ok (.lreturn, 1)) (hr : jR j = some .long) (hq : Q (.inl (some (.long v))) h) : Vw G j pc ls [.long v] h Q :=
  Vw.ret hq (fun p e s m args below meth c R H locs la cells slots Qc h0 F q1 q2 => W.lret F.1 F.2.1 (F.2.2.2.1.trans hr) q1 q2 hd F.2.2.2.2.1)
theorem s_return (hd : decode (jC j) pc = .ok (.return_, 1)) (hr : jR j = none) (hq : Q (.inl none) h) : Vw G j pc ls [] h Q :=
  Vw.ret hq (fun p e s m args below meth c R H locs la cells slots Qc h0 F q1 q2 => W.vret F.1 F.2.1 (F.2.2.2.1.trans hr) q1 q2 hd F.2.2.2.2.1)
end HEAPS2
