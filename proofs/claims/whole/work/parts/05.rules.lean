section RULES
variable {G : GX} {j : MX} {pc : Nat} {ls : mL} {st : List Value} {h : mH} {Q : mO → mH → Prop}
theorem Vw.same {pc' : Nat} {st' : List Value} (f : ∀ (p : Program) (e : Env) (s : State) (m : MethodId) (args : Array Value) (below : List Frame) (meth : Method) (c : Code) (h0 : mH) (H : Heap) (locs : List Loc) (la : Array Slot) (Q : State → Prop) (cells slots : Nat), Fr G j h0 p s m args meth c → mLs G (jL j) ls la →
    W p (gL G) e (jRm j h0) s m args below meth c H locs cells slots Q (F0 m pc' la (st'.map (rv G))) → W p (gL G) e (jRm j h0) s m args below meth c H locs cells slots Q (F0 m pc la (st.map (rv G)))) (k : Vw G j pc' ls st' h Q) : Vw G j pc ls st h Q :=
  fun p e s m args below meth c h0 H locs la F hS hP hE hl => f p e s m args below meth c h0 H locs la _ _ _ F hl (k p e s m args below meth c h0 H locs la F hS hP hE hl)
/-- fewer locals known -/
theorem Vw.drop {ls' : mL} (hs : ∀ (i : Nat) (v : Value), ls'[i]? = some (some v) → ls[i]? = some (some v)) (k : Vw G j pc ls' st h Q) : Vw G j pc ls st h Q :=
  fun p e s m args below meth c h0 H locs la F hS hP hE hl => k p e s m args below meth c h0 H locs la F hS hP hE ⟨hl.1, hl.2.1, fun i v hi => hl.2.2 i v (hs i v hi)⟩
theorem Vw.mono {Q' : mO → mH → Prop} (hq : ∀ o h, Q o h → Q' o h) (k : Vw G j pc ls st h Q) : Vw G j pc ls st h Q' := by
  intro p e s m args below meth c h0 H locs la F hS hP hE hl T hT X
  obtain ⟨t, a1, o, b1, b2, b3⟩ := k p e s m args below meth c h0 H locs la F hS hP hE hl T hT X
  refine ⟨t, a1, o, b1, b2, ?_⟩
  rcases b3 with ⟨⟨v, h', c1, c2, c3⟩, b4⟩ | ⟨q, c0, E, ce, L, ⟨h', c2, c3⟩, b4⟩
  · exact Or.inl ⟨⟨v, h', c1, hq _ _ c2, c3⟩, b4⟩
  · exact Or.inr ⟨q, c0, E, ce, L, ⟨h', hq _ _ c2, c3⟩, b4⟩
theorem lv_of {nL : Nat} {la : Array Slot} (hl : mLs G nL ls la) {i : Nat} {v : Value} (hi : ls[i]? = some (some v)) : la[i]? = some (.val (rv G v)) := hl.2.2 i v hi
theorem s_iadd {x y : Int32} (hd : decode (jC j) pc = .ok (.iadd, 1)) (k : Vw G j (pc + 1) ls (.int (x + y) :: st) h Q) : Vw G j pc ls (.int y :: .int x :: st) h Q := Vw.same (fun p e s m args below meth c h0 H locs la Q cells slots F hl k => lv_iadd F.1 F.2.1 hd k) k
theorem s_isub {x y : Int32} (hd : decode (jC j) pc = .ok (.isub, 1)) (k : Vw G j (pc + 1) ls (.int (x - y) :: st) h Q) : Vw G j pc ls (.int y :: .int x :: st) h Q := Vw.same (fun p e s m args below meth c h0 H locs la Q cells slots F hl k => lv_isub F.1 F.2.1 hd k) k
theorem s_imul {x y : Int32} (hd : decode (jC j) pc = .ok (.imul, 1)) (k : Vw G j (pc + 1) ls (.int (x * y) :: st) h Q) : Vw G j pc ls (.int y :: .int x :: st) h Q := Vw.same (fun p e s m args below meth c h0 H locs la Q cells slots F hl k => lv_imul F.1 F.2.1 hd k) k
theorem s_iand {x y : Int32} (hd : decode (jC j) pc = .ok (.iand, 1)) (k : Vw G j (pc + 1) ls (.int (x &&& y) :: st) h Q) : Vw G j pc ls (.int y :: .int x :: st) h Q := Vw.same (fun p e s m args below meth c h0 H locs la Q cells slots F hl k => lv_iand F.1 F.2.1 hd k) k
theorem s_ior {x y : Int32} (hd : decode (jC j) pc = .ok (.ior, 1)) (k : Vw G j (pc + 1) ls (.int (x ||| y) :: st) h Q) : Vw G j pc ls (.int y :: .int x :: st) h Q := Vw.same (fun p e s m args below meth c h0 H locs la Q cells slots F hl k => lv_ior F.1 F.2.1 hd k) k
theorem s_ixor {x y : Int32} (hd : decode (jC j) pc = .ok (.ixor, 1)) (k : Vw G j (pc + 1) ls (.int (x ^^^ y) :: st) h Q) : Vw G j pc ls (.int y :: .int x :: st) h Q := Vw.same (fun p e s m args below meth c h0 H locs la Q cells slots F hl k => lv_ixor F.1 F.2.1 hd k) k
theorem s_ishl {x y : Int32} (hd : decode (jC j) pc = .ok (.ishl, 1)) (k : Vw G j (pc + 1) ls (.int (x <<< (y &&& 31)) :: st) h Q) : Vw G j pc ls (.int y :: .int x :: st) h Q := Vw.same (fun p e s m args below meth c h0 H locs la Q cells slots F hl k => lv_ishl F.1 F.2.1 hd k) k
theorem s_ishr {x y : Int32} (hd : decode (jC j) pc = .ok (.ishr, 1)) (k : Vw G j (pc + 1) ls (.int (x >>> (y &&& 31)) :: st) h Q) : Vw G j pc ls (.int y :: .int x :: st) h Q := Vw.same (fun p e s m args below meth c h0 H locs la Q cells slots F hl k => lv_ishr F.1 F.2.1 hd k) k
theorem s_idiv {x y : Int32} (hd : decode (jC j) pc = .ok (.idiv, 1)) (hne : ¬ y = 0) (k : Vw G j (pc + 1) ls (.int (x / y) :: st) h Q) : Vw G j pc ls (.int y :: .int x :: st) h Q := Vw.same (fun p e s m args below meth c h0 H locs la Q cells slots F hl k => lv_idiv F.1 F.2.1 hd hne k) k
theorem s_irem {x y : Int32} (hd : decode (jC j) pc = .ok (.irem, 1)) (hne : ¬ y = 0) (k : Vw G j (pc + 1) ls (.int (x - x / y * y) :: st) h Q) : Vw G j pc ls (.int y :: .int x :: st) h Q := Vw.same (fun p e s m args below meth c h0 H locs la Q cells slots F hl k => lv_irem F.1 F.2.1 hd hne k) k
theorem s_iushr {x y : Int32} (hd : decode (jC j) pc = .ok (.iushr, 1)) (k : Vw G j (pc + 1) ls (.int (x.toUInt32 >>> (y.toUInt32 &&& Int32.toUInt32 31)).toInt32 :: st) h Q) : Vw G j pc ls (.int y :: .int x :: st) h Q := Vw.same (fun p e s m args below meth c h0 H locs la Q cells slots F hl k => lv_iushr F.1 F.2.1 hd rfl k) k
theorem s_ineg {x : Int32} (hd : decode (jC j) pc = .ok (.ineg, 1)) (k : Vw G j (pc + 1) ls (.int (-x) :: st) h Q) : Vw G j pc ls (.int x :: st) h Q := Vw.same (fun p e s m args below meth c h0 H locs la Q cells slots F hl k => lv_ineg F.1 F.2.1 hd k) k
theorem s_lsub {x y : Int64} (hd : decode (jC j) pc = .ok (.lsub, 1)) (k : Vw G j (pc + 1) ls (.long (x - y) :: st) h Q) : Vw G j pc ls (.long y :: .long x :: st) h Q := Vw.same (fun p e s m args below meth c h0 H locs la Q cells slots F hl k => lv_lsub F.1 F.2.1 hd k) k
theorem s_lor {x y : Int64} (hd : decode (jC j) pc = .ok (.lor, 1)) (k : Vw G j (pc + 1) ls (.long (x ||| y) :: st) h Q) : Vw G j pc ls (.long y :: .long x :: st) h Q := Vw.same (fun p e s m args below meth c h0 H locs la Q cells slots F hl k => lv_lor F.1 F.2.1 hd k) k
theorem s_lshl {x : Int64} {y : Int32} (hd : decode (jC j) pc = .ok (.lshl, 1)) (k : Vw G j (pc + 1) ls (.long (x <<< (y.toInt64 &&& 63)) :: st) h Q) : Vw G j pc ls (.int y :: .long x :: st) h Q := Vw.same (fun p e s m args below meth c h0 H locs la Q cells slots F hl k => lv_lshl F.1 F.2.1 hd rfl k) k
theorem s_lcmp {x y : Int64} (hd : decode (jC j) pc = .ok (.lcmp, 1)) (k : Vw G j (pc + 1) ls (.int (lg_cmp x y) :: st) h Q) : Vw G j pc ls (.long y :: .long x :: st) h Q := Vw.same (fun p e s m args below meth c h0 H locs la Q cells slots F hl k => W.lcmp F.1 F.2.1 hd k) k
theorem s_i2l {x : Int32} (hd : decode (jC j) pc = .ok (.i2l, 1)) (k : Vw G j (pc + 1) ls (.long x.toInt64 :: st) h Q) : Vw G j pc ls (.int x :: st) h Q := Vw.same (fun p e s m args below meth c h0 H locs la Q cells slots F hl k => lv_i2l F.1 F.2.1 hd rfl k) k
theorem s_i2c {x : Int32} (hd : decode (jC j) pc = .ok (.i2c, 1)) (k : Vw G j (pc + 1) ls (.int (x.toUInt32 % 65536).toInt32 :: st) h Q) : Vw G j pc ls (.int x :: st) h Q := Vw.same (fun p e s m args below meth c h0 H locs la Q cells slots F hl k => lv_i2c F.1 F.2.1 hd rfl k) k
theorem s_i2b {x : Int32} (hd : decode (jC j) pc = .ok (.i2b, 1)) (k : Vw G j (pc + 1) ls (.int x.toInt8.toInt32 :: st) h Q) : Vw G j pc ls (.int x :: st) h Q := Vw.same (fun p e s m args below meth c h0 H locs la Q cells slots F hl k => lv_i2b F.1 F.2.1 hd rfl k) k
theorem s_iconst {n : Int} (v : Int32) (hd : decode (jC j) pc = .ok (.iconst n, 1)) (hv : Int32.ofInt n = v) (k : Vw G j (pc + 1) ls (.int v :: st) h Q) : Vw G j pc ls st h Q := Vw.same (fun p e s m args below meth c h0 H locs la Q cells slots F hl k => lv_iconst F.1 F.2.1 hd hv k) k
theorem s_bipush {n : Int} (v : Int32) (hd : decode (jC j) pc = .ok (.bipush n, 2)) (hv : (Int8.ofInt n).toInt32 = v) (k : Vw G j (pc + 2) ls (.int v :: st) h Q) : Vw G j pc ls st h Q := Vw.same (fun p e s m args below meth c h0 H locs la Q cells slots F hl k => lv_bipush F.1 F.2.1 hd hv k) k
theorem s_sipush {n : Int} (v : Int32) (hd : decode (jC j) pc = .ok (.sipush n, 3)) (hv : (Int16.ofInt n).toInt32 = v) (k : Vw G j (pc + 3) ls (.int v :: st) h Q) : Vw G j pc ls st h Q := Vw.same (fun p e s m args below meth c h0 H locs la Q cells slots F hl k => lv_sipush F.1 F.2.1 hd hv k) k
theorem s_lconst {n : Fin 2} (v : Int64) (hd : decode (jC j) pc = .ok (.lconst n, 1)) (hv : Int64.ofNat (n : Nat) = v) (k : Vw G j (pc + 1) ls (.long v :: st) h Q) : Vw G j pc ls st h Q := Vw.same (fun p e s m args below meth c h0 H locs la Q cells slots F hl k => lv_lconst F.1 F.2.1 hd hv k) k
theorem s_ldc {i : Nat} {v : Int32} (hd : decode (jC j) pc = .ok (.ldc i, 2)) (hw : Cond.constant (jY j).cls i v ∈ gT) (k : Vw G j (pc + 2) ls (.int v :: st) h Q) : Vw G j pc ls st h Q := Vw.same (fun p e s m args below meth c h0 H locs la Q cells slots F hl k => lv_ldc F.1 F.2.1 F.2.2.2.2.2.1 (F.2.2.2.2.2.2.1 _ hw) hd k) k
theorem s_ldc2 {i : Nat} {v : Int64} (hd : decode (jC j) pc = .ok (.ldc2_w i, 3)) (hw : Cond.constantLong (jY j).cls i v ∈ gT) (k : Vw G j (pc + 3) ls (.long v :: st) h Q) : Vw G j pc ls st h Q := Vw.same (fun p e s m args below meth c h0 H locs la Q cells slots F hl k => lv_ldc2 F.1 F.2.1 F.2.2.2.2.2.1 (F.2.2.2.2.2.2.1 _ hw) hd k) k
theorem s_iload {i : Nat} {x : Int32} (hd : decode (jC j) pc = .ok (.iload i, 2)) (hi : ls[i]? = some (some (.int x))) (k : Vw G j (pc + 2) ls (.int x :: st) h Q) : Vw G j pc ls st h Q := Vw.same (fun p e s m args below meth c h0 H locs la Q cells slots F hl k => lv_iload F.1 F.2.1 hd (lv_of hl hi) k) k
theorem s_iload_n {i : Fin 4} {x : Int32} (hd : decode (jC j) pc = .ok (.iload_n i, 1)) (hi : ls[(i : Nat)]? = some (some (.int x))) (k : Vw G j (pc + 1) ls (.int x :: st) h Q) : Vw G j pc ls st h Q := Vw.same (fun p e s m args below meth c h0 H locs la Q cells slots F hl k => lv_iload_n F.1 F.2.1 hd rfl (lv_of hl hi) k) k
theorem s_lload {i : Nat} {x : Int64} (hd : decode (jC j) pc = .ok (.lload i, 2)) (hi : ls[i]? = some (some (.long x))) (k : Vw G j (pc + 2) ls (.long x :: st) h Q) : Vw G j pc ls st h Q := Vw.same (fun p e s m args below meth c h0 H locs la Q cells slots F hl k => lv_lload F.1 F.2.1 hd (lv_of hl hi) k) k
theorem s_aload {i : Nat} {x : Nat} (hd : decode (jC j) pc = .ok (.aload i, 2)) (hi : ls[i]? = some (some (.ref x))) (k : Vw G j (pc + 2) ls (.ref x :: st) h Q) : Vw G j pc ls st h Q := Vw.same (fun p e s m args below meth c h0 H locs la Q cells slots F hl k => lv_aload F.1 F.2.1 hd (lv_of hl hi) k) k
theorem s_aload_n {i : Fin 4} {x : Nat} (hd : decode (jC j) pc = .ok (.aload_n i, 1)) (hi : ls[(i : Nat)]? = some (some (.ref x))) (k : Vw G j (pc + 1) ls (.ref x :: st) h Q) : Vw G j pc ls st h Q := Vw.same (fun p e s m args below meth c h0 H locs la Q cells slots F hl k => lv_aload_n F.1 F.2.1 hd rfl (lv_of hl hi) k) k
theorem s_aloadS {i : Nat} {x : UInt32} (hd : decode (jC j) pc = .ok (.aload i, 2)) (hi : ls[i]? = some (some (.float x))) (k : Vw G j (pc + 2) ls (.float x :: st) h Q) : Vw G j pc ls st h Q := Vw.same (fun p e s m args below meth c h0 H locs la Q cells slots F hl k => lv_aload F.1 F.2.1 hd (lv_of hl hi) k) k
theorem s_aloadS_n {i : Fin 4} {x : UInt32} (hd : decode (jC j) pc = .ok (.aload_n i, 1)) (hi : ls[(i : Nat)]? = some (some (.float x))) (k : Vw G j (pc + 1) ls (.float x :: st) h Q) : Vw G j pc ls st h Q := Vw.same (fun p e s m args below meth c h0 H locs la Q cells slots F hl k => lv_aload_n F.1 F.2.1 hd rfl (lv_of hl hi) k) k
theorem s_dupi {x : Int32} (hd : decode (jC j) pc = .ok (.dup, 1)) (k : Vw G j (pc + 1) ls (.int x :: .int x :: st) h Q) : Vw G j pc ls (.int x :: st) h Q := Vw.same (fun p e s m args below meth c h0 H locs la Q cells slots F hl k => lv_dup F.1 F.2.1 hd rfl k) k
theorem s_popi {x : Int32} (hd : decode (jC j) pc = .ok (.pop, 1)) (k : Vw G j (pc + 1) ls st h Q) : Vw G j pc ls (.int x :: st) h Q := Vw.same (fun p e s m args below meth c h0 H locs la Q cells slots F hl k => lv_pop F.1 F.2.1 hd rfl k) k
theorem s_dupr {x : Nat} (hd : decode (jC j) pc = .ok (.dup, 1)) (k : Vw G j (pc + 1) ls (.ref x :: .ref x :: st) h Q) : Vw G j pc ls (.ref x :: st) h Q := Vw.same (fun p e s m args below meth c h0 H locs la Q cells slots F hl k => lv_dup F.1 F.2.1 hd rfl k) k
theorem s_popr {x : Nat} (hd : decode (jC j) pc = .ok (.pop, 1)) (k : Vw G j (pc + 1) ls st h Q) : Vw G j pc ls (.ref x :: st) h Q := Vw.same (fun p e s m args below meth c h0 H locs la Q cells slots F hl k => lv_pop F.1 F.2.1 hd rfl k) k
theorem s_dup2ir {x : Int32} {a : Nat} (hd : decode (jC j) pc = .ok (.dup2, 1)) (k : Vw G j (pc + 1) ls (.int x :: .ref a :: .int x :: .ref a :: st) h Q) : Vw G j pc ls (.int x :: .ref a :: st) h Q := Vw.same (fun p e s m args below meth c h0 H locs la Q cells slots F hl k => lv_dup2_11 F.1 F.2.1 hd rfl rfl k) k
theorem s_if_eq {x : Int32} {off : Int} (t : Nat) (hd : decode (jC j) pc = .ok (.ifCond .eq off, 3)) (ht : (pc : Int) + off = (t : Int)) (kt : x = 0 → Vw G j t ls st h Q) (kf : ¬ x = 0 → Vw G j (pc + 3) ls st h Q) : Vw G j pc ls (.int x :: st) h Q :=
  fun p e s m args below meth c h0 H locs la F hS hP hE hl => lv_if_eq F.1 F.2.1 hd ht (fun q => kt q p e s m args below meth c h0 H locs la F hS hP hE hl) (fun q => kf q p e s m args below meth c h0 H locs la F hS hP hE hl)
theorem s_if_ne {x : Int32} {off : Int} (t : Nat) (hd : decode (jC j) pc = .ok (.ifCond .ne off, 3)) (ht : (pc : Int) + off = (t : Int)) (kt : ¬ x = 0 → Vw G j t ls st h Q) (kf : x = 0 → Vw G j (pc + 3) ls st h Q) : Vw G j pc ls (.int x :: st) h Q :=
  fun p e s m args below meth c h0 H locs la F hS hP hE hl => lv_if_ne F.1 F.2.1 hd ht (fun q => kt q p e s m args below meth c h0 H locs la F hS hP hE hl) (fun q => kf q p e s m args below meth c h0 H locs la F hS hP hE hl)
theorem s_if_lt {x : Int32} {off : Int} (t : Nat) (hd : decode (jC j) pc = .ok (.ifCond .lt off, 3)) (ht : (pc : Int) + off = (t : Int)) (kt : x < 0 → Vw G j t ls st h Q) (kf : ¬ x < 0 → Vw G j (pc + 3) ls st h Q) : Vw G j pc ls (.int x :: st) h Q :=
  fun p e s m args below meth c h0 H locs la F hS hP hE hl => lv_if_lt F.1 F.2.1 hd ht (fun q => kt q p e s m args below meth c h0 H locs la F hS hP hE hl) (fun q => kf q p e s m args below meth c h0 H locs la F hS hP hE hl)
theorem s_if_ge {x : Int32} {off : Int} (t : Nat) (hd : decode (jC j) pc = .ok (.ifCond .ge off, 3)) (ht : (pc : Int) + off = (t : Int)) (kt : 0 ≤ x → Vw G j t ls st h Q) (kf : ¬ 0 ≤ x → Vw G j (pc + 3) ls st h Q) : Vw G j pc ls (.int x :: st) h Q :=
  fun p e s m args below meth c h0 H locs la F hS hP hE hl => lv_if_ge F.1 F.2.1 hd ht (fun q => kt q p e s m args below meth c h0 H locs la F hS hP hE hl) (fun q => kf q p e s m args below meth c h0 H locs la F hS hP hE hl)
theorem s_if_gt {x : Int32} {off : Int} (t : Nat) (hd : decode (jC j) pc = .ok (.ifCond .gt off, 3)) (ht : (pc : Int) + off = (t : Int)) (kt : 0 < x → Vw G j t ls st h Q) (kf : ¬ 0 < x → Vw G j (pc + 3) ls st h Q) : Vw G j pc ls (.int x :: st) h Q :=
  fun p e s m args below meth c h0 H locs la F hS hP hE hl => lv_if_gt F.1 F.2.1 hd ht (fun q => kt q p e s m args below meth c h0 H locs la F hS hP hE hl) (fun q => kf q p e s m args below meth c h0 H locs la F hS hP hE hl)
theorem s_if_le {x : Int32} {off : Int} (t : Nat) (hd : decode (jC j) pc = .ok (.ifCond .le off, 3)) (ht : (pc : Int) + off = (t : Int)) (kt : x ≤ 0 → Vw G j t ls st h Q) (kf : ¬ x ≤ 0 → Vw G j (pc + 3) ls st h Q) : Vw G j pc ls (.int x :: st) h Q :=
  fun p e s m args below meth c h0 H locs la F hS hP hE hl => lv_if_le F.1 F.2.1 hd ht (fun q => kt q p e s m args below meth c h0 H locs la F hS hP hE hl) (fun q => kf q p e s m args below meth c h0 H locs la F hS hP hE hl)
theorem s_icmp_eq {x y : Int32} {off : Int} (t : Nat) (hd : decode (jC j) pc = .ok (.if_icmp .eq off, 3)) (ht : (pc : Int) + off = (t : Int)) (kt : x = y → Vw G j t ls st h Q) (kf : ¬ x = y → Vw G j (pc + 3) ls st h Q) : Vw G j pc ls (.int y :: .int x :: st) h Q :=
  fun p e s m args below meth c h0 H locs la F hS hP hE hl => lv_icmp_eq F.1 F.2.1 hd ht (fun q => kt q p e s m args below meth c h0 H locs la F hS hP hE hl) (fun q => kf q p e s m args below meth c h0 H locs la F hS hP hE hl)
theorem s_icmp_ne {x y : Int32} {off : Int} (t : Nat) (hd : decode (jC j) pc = .ok (.if_icmp .ne off, 3)) (ht : (pc : Int) + off = (t : Int)) (kt : ¬ x = y → Vw G j t ls st h Q) (kf : x = y → Vw G j (pc + 3) ls st h Q) : Vw G j pc ls (.int y :: .int x :: st) h Q :=
  fun p e s m args below meth c h0 H locs la F hS hP hE hl => lv_icmp_ne F.1 F.2.1 hd ht (fun q => kt q p e s m args below meth c h0 H locs la F hS hP hE hl) (fun q => kf q p e s m args below meth c h0 H locs la F hS hP hE hl)
theorem s_icmp_lt {x y : Int32} {off : Int} (t : Nat) (hd : decode (jC j) pc = .ok (.if_icmp .lt off, 3)) (ht : (pc : Int) + off = (t : Int)) (kt : x < y → Vw G j t ls st h Q) (kf : ¬ x < y → Vw G j (pc + 3) ls st h Q) : Vw G j pc ls (.int y :: .int x :: st) h Q :=
  fun p e s m args below meth c h0 H locs la F hS hP hE hl => lv_icmp_lt F.1 F.2.1 hd ht (fun q => kt q p e s m args below meth c h0 H locs la F hS hP hE hl) (fun q => kf q p e s m args below meth c h0 H locs la F hS hP hE hl)
theorem s_icmp_ge {x y : Int32} {off : Int} (t : Nat) (hd : decode (jC j) pc = .ok (.if_icmp .ge off, 3)) (ht : (pc : Int) + off = (t : Int)) (kt : y ≤ x → Vw G j t ls st h Q) (kf : ¬ y ≤ x → Vw G j (pc + 3) ls st h Q) : Vw G j pc ls (.int y :: .int x :: st) h Q :=
  fun p e s m args below meth c h0 H locs la F hS hP hE hl => lv_icmp_ge F.1 F.2.1 hd ht (fun q => kt q p e s m args below meth c h0 H locs la F hS hP hE hl) (fun q => kf q p e s m args below meth c h0 H locs la F hS hP hE hl)
theorem s_icmp_gt {x y : Int32} {off : Int} (t : Nat) (hd : decode (jC j) pc = .ok (.if_icmp .gt off, 3)) (ht : (pc : Int) + off = (t : Int)) (kt : y < x → Vw G j t ls st h Q) (kf : ¬ y < x → Vw G j (pc + 3) ls st h Q) : Vw G j pc ls (.int y :: .int x :: st) h Q :=
  fun p e s m args below meth c h0 H locs la F hS hP hE hl => lv_icmp_gt F.1 F.2.1 hd ht (fun q => kt q p e s m args below meth c h0 H locs la F hS hP hE hl) (fun q => kf q p e s m args below meth c h0 H locs la F hS hP hE hl)
theorem s_icmp_le {x y : Int32} {off : Int} (t : Nat) (hd : decode (jC j) pc = .ok (.if_icmp .le off, 3)) (ht : (pc : Int) + off = (t : Int)) (kt : x ≤ y → Vw G j t ls st h Q) (kf : ¬ x ≤ y → Vw G j (pc + 3) ls st h Q) : Vw G j pc ls (.int y :: .int x :: st) h Q :=
  fun p e s m args below meth c h0 H locs la F hS hP hE hl => lv_icmp_le F.1 F.2.1 hd ht (fun q => kt q p e s m args below meth c h0 H locs la F hS hP hE hl) (fun q => kf q p e s m args below meth c h0 H locs la F hS hP hE hl)
theorem s_goto {off : Int} (t : Nat) (hd : decode (jC j) pc = .ok (.goto off, 3)) (ht : (pc : Int) + off = (t : Int)) (k : Vw G j t ls st h Q) : Vw G j pc ls st h Q := Vw.same (fun p e s m args below meth c h0 H locs la Q cells slots F hl k => lv_goto F.1 F.2.1 hd ht k) k
theorem s_tableIn {dflt lo hi : Int} {offs : Array Int} {len : Nat} {x : Int32} {off : Int} (t : Nat) (hd : decode (jC j) pc = .ok (.tableswitch dflt lo hi offs, len)) (h1 : ¬ x.toInt < lo) (h2 : ¬ hi < x.toInt) (ho : offs[(x.toInt - lo).toNat]? = some off) (ht : (pc : Int) + off = (t : Int)) (k : Vw G j t ls st h Q) : Vw G j pc ls (.int x :: st) h Q := Vw.same (fun p e s m args below meth c h0 H locs la Q cells slots F hl k => lv_tableIn F.1 F.2.1 hd h1 h2 ho ht k) k
theorem s_tableOut {dflt lo hi : Int} {offs : Array Int} {len : Nat} {x : Int32} (t : Nat) (hd : decode (jC j) pc = .ok (.tableswitch dflt lo hi offs, len)) (h1 : x.toInt < lo ∨ hi < x.toInt) (ht : (pc : Int) + dflt = (t : Int)) (k : Vw G j t ls st h Q) : Vw G j pc ls (.int x :: st) h Q := Vw.same (fun p e s m args below meth c h0 H locs la Q cells slots F hl k => lv_tableOut F.1 F.2.1 hd h1 ht k) k
theorem s_lookup {dflt : Int} {ps : Array (Int × Int)} {len : Nat} {x : Int32} {off : Int} (t : Nat) (hd : decode (jC j) pc = .ok (.lookupswitch dflt ps, len)) (hp : (ps.toList.zip (ps.toList.drop 1)).all (fun (a, next) => a.1 < next.1) = true) (ho : Op.lookupswitch.offset ps.toList dflt x.toInt = off) (ht : (pc : Int) + off = (t : Int)) (k : Vw G j t ls st h Q) : Vw G j pc ls (.int x :: st) h Q := Vw.same (fun p e s m args below meth c h0 H locs la Q cells slots F hl k => lv_lookup F.1 F.2.1 hd hp ho ht k) k
def lvl (G : GX) (ls : mL) : List (Nat × Value) := (List.range ls.length).filterMap (fun i => match ls[i]? with | some (some v) => some (i, rv G v) | _ => none)
theorem lvl_mem {i : Nat} {v : Value} : (i, v) ∈ lvl G ls ↔ ∃ w, ls[i]? = some (some w) ∧ rv G w = v := by
  unfold lvl
  rw [List.mem_filterMap]
  constructor
  · rintro ⟨a, -, ha⟩
    split at ha
    · rename_i w hw
      cases ha
      exact ⟨w, hw, rfl⟩
    · cases ha
  · rintro ⟨w, hw, rfl⟩
    refine ⟨i, List.mem_range.mpr (List.getElem?_eq_some_iff.mp hw).1, ?_⟩
    rw [hw]
theorem mLs.has {nL : Nat} {la : Array Slot} (hl : mLs G nL ls la) : lv_has la nL (lvl G ls) := ⟨hl.1, hl.2.1, fun q hq => by
  obtain ⟨i, v⟩ := q
  obtain ⟨w, hw, rfl⟩ := lvl_mem.mp hq
  exact hl.2.2 i w hw⟩
def mOk (ls : mL) (i : Nat) : Bool := match i with
  | 0 => true
  | k + 1 => match ls[k]? with
    | some (some (.long _)) => false
    | some (some (.double _)) => false
    | _ => true
theorem mOk_cat {i k : Nat} {w : Value} (h : mOk ls i = true) (hk : ls[k]? = some (some w)) (hi : k + 1 = i) : (rv G w).category ≠ 2 := by
  subst hi
  cases w <;> simp_all [mOk, rv, Value.category]
theorem mLs.set {nL i : Nat} {la : Array Slot} {v w : Value} (ho : mOk ls i = true) (hw : rv G v = w) (hl : lv_has la nL ((i, w) :: (lvl G ls).filter (fun q => !(q.1 == i) && !(q.1 + 1 == i && q.2.category == 2)))) : mLs G nL (ls.set i (some v)) la := by
  refine ⟨hl.1, hl.2.1, fun k u hk => ?_⟩
  by_cases hki : k = i
  · subst hki
    by_cases hlt : k < ls.length
    · rw [List.getElem?_set_self hlt] at hk
      cases hk
      rw [hw]
      exact hl.2.2 (k, w) List.mem_cons_self
    · rw [List.getElem?_eq_none (by simp; omega)] at hk
      cases hk
  · rw [List.getElem?_set_ne (fun q => hki q.symm)] at hk
    refine hl.2.2 (k, rv G u) (List.mem_cons_of_mem _ (List.mem_filter.mpr ⟨lvl_mem.mpr ⟨u, hk, rfl⟩, ?_⟩))
    have h1 : (k == i) = false := by simpa using hki
    by_cases h2 : k + 1 = i
    · have := mOk_cat (G := G) ho hk h2
      simp [h1, this]
    · simp [h1, h2]
theorem mLs.setL {nL i : Nat} {la : Array Slot} {v w : Value} (ho : mOk ls i = true) (hw : rv G v = w) (hl : lv_has la nL ((i, w) :: (lvl G ls).filter (fun q => !(q.1 == i) && (!(q.1 == i + 1) && !(q.1 + 1 == i && q.2.category == 2))))) : mLs G nL ((ls.set i (some v)).set (i + 1) none) la := by
  refine ⟨hl.1, hl.2.1, fun k u hk => ?_⟩
  by_cases hk1 : k = i + 1
  · subst hk1
    by_cases hlt : i + 1 < ls.length
    · rw [List.getElem?_set_self (by simpa using hlt)] at hk
      cases hk
    · rw [List.getElem?_eq_none (by simp; omega)] at hk
      cases hk
  · rw [List.getElem?_set_ne (fun q => hk1 q.symm)] at hk
    by_cases hki : k = i
    · subst hki
      by_cases hlt : k < ls.length
      · rw [List.getElem?_set_self hlt] at hk
        cases hk
        rw [hw]
        exact hl.2.2 (k, w) List.mem_cons_self
      · rw [List.getElem?_eq_none (by simp; omega)] at hk
        cases hk
    · rw [List.getElem?_set_ne (fun q => hki q.symm)] at hk
      refine hl.2.2 (k, rv G u) (List.mem_cons_of_mem _ (List.mem_filter.mpr ⟨lvl_mem.mpr ⟨u, hk, rfl⟩, ?_⟩))
      have h1 : (k == i) = false := by simpa using hki
      have h3 : (k == i + 1) = false := by simpa using hk1
      by_cases h2 : k + 1 = i
      · have := mOk_cat (G := G) ho hk h2
        simp [h1, h3, this]
      · simp [h1, h3, h2]
theorem s_istore {i : Nat} {x : Int32} (hd : decode (jC j) pc = .ok (.istore i, 2)) (hn : i < jL j) (ho : mOk ls i = true) (k : Vw G j (pc + 2) (ls.set i (some (.int x))) st h Q) : Vw G j pc ls (.int x :: st) h Q :=
  fun p e s m args below meth c h0 H locs la F hS hP hE hl => lv_istore F.1 F.2.1 hd hl.has hn rfl (fun la2 hl2 => k p e s m args below meth c h0 H locs la2 F hS hP hE (mLs.set ho rfl hl2))
theorem s_istore_n {i : Fin 4} {x : Int32} (hd : decode (jC j) pc = .ok (.istore_n i, 1)) (hn : (i : Nat) < jL j) (ho : mOk ls (i : Nat) = true) (k : Vw G j (pc + 1) (ls.set (i : Nat) (some (.int x))) st h Q) : Vw G j pc ls (.int x :: st) h Q :=
  fun p e s m args below meth c h0 H locs la F hS hP hE hl => lv_istore_n F.1 F.2.1 hd rfl hl.has hn rfl (fun la2 hl2 => k p e s m args below meth c h0 H locs la2 F hS hP hE (mLs.set ho rfl hl2))
theorem s_astore {i : Nat} {x : Nat} (hd : decode (jC j) pc = .ok (.astore i, 2)) (hn : i < jL j) (ho : mOk ls i = true) (k : Vw G j (pc + 2) (ls.set i (some (.ref x))) st h Q) : Vw G j pc ls (.ref x :: st) h Q :=
  fun p e s m args below meth c h0 H locs la F hS hP hE hl => lv_astore F.1 F.2.1 hd hl.has hn rfl (fun la2 hl2 => k p e s m args below meth c h0 H locs la2 F hS hP hE (mLs.set ho rfl hl2))
theorem s_astore_n {i : Fin 4} {x : Nat} (hd : decode (jC j) pc = .ok (.astore_n i, 1)) (hn : (i : Nat) < jL j) (ho : mOk ls (i : Nat) = true) (k : Vw G j (pc + 1) (ls.set (i : Nat) (some (.ref x))) st h Q) : Vw G j pc ls (.ref x :: st) h Q :=
  fun p e s m args below meth c h0 H locs la F hS hP hE hl => lv_astore_n F.1 F.2.1 hd rfl hl.has hn rfl (fun la2 hl2 => k p e s m args below meth c h0 H locs la2 F hS hP hE (mLs.set ho rfl hl2))
theorem s_lstore {i : Nat} {x : Int64} (hd : decode (jC j) pc = .ok (.lstore i, 2)) (hn : i + 1 < jL j) (ho : mOk ls i = true) (k : Vw G j (pc + 2) ((ls.set i (some (.long x))).set (i + 1) none) st h Q) : Vw G j pc ls (.long x :: st) h Q :=
  fun p e s m args below meth c h0 H locs la F hS hP hE hl => lv_lstore F.1 F.2.1 hd hl.has hn rfl (fun la2 hl2 => k p e s m args below meth c h0 H locs la2 F hS hP hE (mLs.setL ho rfl hl2))
theorem s_iinc {i : Nat} {n : Int} {x : Int32} (v : Int32) (hd : decode (jC j) pc = .ok (.iinc i n, 3)) (hi : ls[i]? = some (some (.int x))) (hv : Int32.ofInt n = v) (hn : i < jL j) (ho : mOk ls i = true) (k : Vw G j (pc + 3) (ls.set i (some (.int (x + v)))) st h Q) : Vw G j pc ls st h Q := by
  intro p e s m args below meth c h0 H locs la F hS hP hE hl
  obtain ⟨kk, hkk⟩ := List.getElem?_of_mem (lvl_mem.mpr ⟨_, hi, (rfl : rv G (.int x) = .int x)⟩)
  exact lv_iinc (v := x + v) F.1 F.2.1 hd hl.has hkk (by rw [hv]) hn rfl (fun la2 hl2 => k p e s m args below meth c h0 H locs la2 F hS hP hE (mLs.set ho rfl hl2))
end RULES
