/-! constructors: an object, its rows, the objects that it makes -/
/-- what a new object holds -/
def fz (ci : Nat) : List Value := (List.range (nfld ci)).map (fun k => if (fkd ci k).1 = 0 then .int (iI 0) else if (fkd ci k).1 = 1 then .long (lI 0) else .null)
theorem fz_len (ci : Nat) : (fz ci).length = nfld ci := by simp [fz]
/-- the memory behind the constructors, but for what 'begin' writes -/
def mm0 : Mem := (fun c k => if c = 0 then (if k = 1 then 3 else if k = 2 then 20 else 0) else if c = 1 then (if k = 3 then -1 else 0) else if c = 77 then (if k = 1 then -1 else if k = 2 then 1000000 else 0) else if c = 79 then (if k = 37 then -1 else 0) else 0, 0)
theorem mm0_R : Rng mm0 := by
  refine ⟨fun c k => ?_, by decide⟩
  unfold mm0
  dsimp only
  repeat' split
  all_goals decide
/-- cells c .. c + n - 1 -/
def blk (g : Geo) (σ : Mem) (c n : Nat) : va_W := (List.range' c n).map (fun k => (g.1 k, ent g σ k))
def zar (g : Geo) (t n : Nat) : va_E := .inl (acls g t, n, .inl (fun _ => iI 0))
/-- the links of the constructors' calls, and the array of State -/
def nestI : List (Nat × MethodName) := [(9, yX3_init), (18, yX2_init), (28, yX5_init), (43, yX0_init), (50, yX6_init), (57, yX4_init), (64, yX1_init)]
def NX (U : State) : Prop := (∀ q ∈ nestI, va_Nw (.methodLinkNest RX7 q.1 q.2 "RopePost") U) ∧ va_AO "RopePost$State" U
theorem NX.warm {s U : State} (h : NX s) (hW : s.WarmedH U.vm) : NX U := ⟨fun q hq => va_Nw.warmM hW (h.1 q hq), va_AO.moved hW.alike h.2⟩
theorem NX.blind {U U' : State} (h : NX U) (hv : U'.vm = U.vm) : NX U' := ⟨fun q hq => va_Nw.same rfl hv.symm (h.1 q hq), va_AO.moved (by rw [hv]; exact Vm.Alike.refl _) h.2⟩
def Ct (own : String) (cc : ByteArray) (nL : Nat) (p : Program) (s : State) (m : MethodId) (args : Array Value) (meth : Method) (c : Code) (g : Geo) (A : Nat → Prop) (H0 : Heap) : Prop :=
  p.tables.exec = Jvm.exec ∧ c.code = cc ∧ c.maxLocals = nL ∧ s.vm.findClass own = some m.cls ∧ (∀ w ∈ G, w.before args s = true) ∧ va_K g.2.1 vwCl (tysG g) s ∧ (∀ q, H0.size ≤ q → A q) ∧ meth.name = "<init>" ∧ NX s
/-- the object at h0, of class ci, holds fs; ws beside it -/
def CtI (g : Geo) (A : Nat → Prop) (H0 : Heap) (h0 ci : Nat) (fs : List Value) (ws : va_W) (H : Heap) (locs : List Loc) : Prop :=
  va_P g.2.1 vwCl ((h0, .inr (ci, fs)) :: ws) H ∧ va_D A ((h0, .inr (ci, fs)) :: ws) ∧ va_S A H0 H locs ∧ fs.length = nfld ci
def CtB (g : Geo) (b sz ci : Nat) : State → Prop := fun U => U.heap.size = sz ∧ va_P g.2.1 vwCl [(b, .inr (ci, fz ci))] U.heap ∧ va_K g.2.1 vwCl (tysG g) U ∧ NX U
/-- a constructor's contract: the cells c .. c + n - 1 stand behind it, the object is the first -/
def CtMet (y : MethodName) (cc : ByteArray) (nL ci c n mc ms fr lo : Nat) (σ : Mem) : Prop :=
  ∀ (l : Launch) (g : Geo) (b sz : Nat), Met l y (Cond.code y cc nL none :: G) { frames := fr, cells := mc, slots := ms, locals := lo } (va_Pc [.ref b] (CtB g b sz ci)) (va_Qv (fun u : Nat → Nat => u c = b) (fun u t => va_P g.2.1 vwCl (blk (u, g.2) σ c n) t.heap ∧ va_D (va_A [(b, .inr (ci, fz ci))] sz) (blk (u, g.2) σ c n)) (va_A [(b, .inr (ci, fz ci))] sz)) mc ms (va_A [(b, .inr (ci, fz ci))] sz)
def CtRun (own : String) (cc : ByteArray) (nL ci c n mc ms fr lo : Nat) (σ : Mem) : Prop :=
  ∀ (p : Program) (l : Launch) (e : Env) (R : Room) (s : State) (m : MethodId) (args : Array Value) (below : List Frame) (meth : Method) (c0 : Code) (g : Geo) (A : Nat → Prop) (h0 : Nat) (ls : Array Slot) (Q : State → Prop),
    Ct own cc nL p s m args meth c0 g A s.heap → lv_has ls nL [(0, .ref h0)] → CtI g A s.heap h0 ci (fz ci) [] s.heap [] → fr ≤ R.frames → lo ≤ R.locals → mc ≤ R.cells → ms ≤ R.slots →
    (∀ (u : Nat → Nat) (pc' : Nat) (H' : Heap) (locs' : List Loc) (ls' : Array Slot), u c = h0 → va_P g.2.1 vwCl (blk (u, g.2) σ c n) H' → va_D A (blk (u, g.2) σ c n) → va_S A s.heap H' locs' → decode cc pc' = .ok (.return_, 1) → W p l e R s m args below meth c0 H' locs' mc ms Q (F0 m pc' ls' [])) →
    W p l e R s m args below meth c0 s.heap [] 0 0 Q (F0 m 0 ls [])
theorem va_D_one {A : Nat → Prop} {x : Nat × va_E} (h : A x.1) : va_D A [x] := by
  refine ⟨fun i j p q hi hj _ => ?_, fun k q hk => ?_⟩
  · have h1 := (List.getElem?_eq_some_iff.mp hi).1
    have h2 := (List.getElem?_eq_some_iff.mp hj).1
    simp at h1 h2
    omega
  · have h1 : q ∈ [x] := List.mem_of_getElem? hk
    rw [List.mem_singleton.mp h1]
    exact h
theorem ct_met {y : MethodName} {cc : ByteArray} {nL ci c n mc ms fr lo : Nat} {σ : Mem} {own : String} (hy : plainName y.cls = true) (ho : y.cls = own) (hnL : 1 ≤ nL) (hi : y.name = "<init>") (h : CtRun own cc nL ci c n mc ms fr lo σ) : CtMet y cc nL ci c n mc ms fr lo σ := by
  intro l g b sz
  refine Met.ofW (cc := cc) (maxL := nL) (ret := none) hy rfl ?_
  intro p e s m args below meth c0 s₁ B hml hP
  obtain ⟨rfl, hsz, hP, hK, hX⟩ := hP
  subst hsz
  have hts : ∀ w ∈ (Cond.code y cc nL none :: G), w.before [Value.ref b].toArray s = true := atoms_spec (ws := Cond.code y cc nL none :: G) B.pre
  have hown : s.vm.findClass own = some m.cls := by rw [← ho]; exact findClass_of_methodNamed B.named
  have hin : meth.name = "<init>" := (name_of_methodNamed B.named B.method).1.trans hi
  have hl := lv_entry ([.ref b]) (n := nL) (show (lg_sl [Value.ref b]).length ≤ nL from hnL)
  rw [lg_entry_eq]
  refine h p l e _ s m _ below meth c0 g (va_A [(b, .inr (ci, fz ci))] s.heap.size) b _ _ ⟨B.exec, B.bytes, hml, hown, fun w hw => hts w (List.mem_cons_of_mem _ hw), hK, fun q hq => Or.inr hq, hin, hX⟩ hl ⟨hP, va_D_one (Or.inl ⟨0, _, rfl⟩), va_S.rf, fz_len ci⟩ (Nat.le_refl _) (Nat.le_refl _) (Nat.le_refl _) (Nat.le_refl _) ?_
  intro u pc' H' locs' ls' hu hP' hD' hS' hd
  exact W.vret B.exec B.bytes B.returns (fun t ht _ => ⟨⟨u, rfl, hu, by rw [ht]; exact hP', hD'⟩, hS'.F ht⟩) hS'.2.2 hd
theorem CtB_blind (g : Geo) (b sz ci : Nat) (av : List Value) : FrameBlind (va_Pc av (CtB g b sz ci)) := by
  intro a U fr mk h
  exact ⟨h.1, h.2.1, h.2.2.1, va_K.moved (u := U) (U := U.calling fr mk a) (Vm.Alike.refl U.vm) h.2.2.2.1, NX.blind (U := U) (U' := U.calling fr mk a) h.2.2.2.2 rfl⟩
theorem ra_uniq {s : State} {a b : ClassId} {t : Nat} {ty : FieldType} (ht : t < 3) (hat : atys[t]? = some ty) (h1 : va_RA s a ty) (h2 : va_RA s b ty) : a = b := by
  match t, ht, hat with
  | 0, _, hat => cases hat; exact Option.some.inj ((va_nm_int h1).symm.trans (va_nm_int h2))
  | 1, _, hat => cases hat; exact Option.some.inj ((va_nm_byte h1).symm.trans (va_nm_byte h2))
  | 2, _, hat => cases hat; exact Option.some.inj ((va_nm_boolean h1).symm.trans (va_nm_boolean h2))
theorem va_joinE {A0 : Nat → Prop} {D : va_G} {cl : List vw_C} {front : va_W} {x : Nat × va_E} {w1 : va_W} {H H1 : Heap} (hP : va_P D cl (front ++ [x]) H) (hD : va_D A0 (front ++ [x])) (hk : ∀ q : Nat, q < H.size → ¬ va_A [x] H.size q → H1[q]? = H[q]?) (hF : ∀ q, va_A [x] H.size q → A0 q) (hP1 : va_P D cl w1 H1) (hD1 : va_D (va_A [x] H.size) w1) : va_P D cl (front ++ w1) H1 ∧ va_D A0 (front ++ w1) := by
  have up : ∀ (k : Nat) (q : Nat × va_E), front[k]? = some q → (front ++ [x])[k]? = some q := fun k q hq => by
    rw [List.getElem?_append_left (List.getElem?_eq_some_iff.mp hq).1]; exact hq
  have apart : ∀ (k : Nat) (q : Nat × va_E), front[k]? = some q → q.1 < H.size ∧ ¬ va_A [x] H.size q.1 := by
    intro k q hq
    have hl := (hP k q (up k q hq)).lt
    refine ⟨hl, fun h => ?_⟩
    rcases h with ⟨k2, e, h⟩ | h
    · have h1 : (q.1, e) = x := List.mem_singleton.mp (List.mem_of_getElem? h)
      have h2 : (front ++ [x])[front.length]? = some x := by simp
      have h3 := hD.1 k front.length q x (up k q hq) h2 (by rw [← h1])
      have h4 := (List.getElem?_eq_some_iff.mp hq).1
      omega
    · omega
  refine ⟨va_P.app (fun k q hq => ?_) hP1, va_D.app ⟨fun i j p q hi hj e => hD.1 i j p q (up i p hi) (up j q hj) e, fun k q hq => hD.2 k q (up k q hq)⟩ (hD1.weaken (fun k q _ h => hF q.1 h)) (fun i j a b ha hb hab => ?_)⟩
  · obtain ⟨g1, g2⟩ := apart k q hq
    exact (hP k q (up k q hq)).kept (hk q.1 g1 g2)
  · exact (apart i a ha).2 (by rw [hab]; exact hD1.2 j b hb)
section CTOR
variable {p : Program} {l : Launch} {e : Env} {R : Room} {s : State} {m : MethodId} {args : Array Value} {below : List Frame} {meth : Method} {c : Code} {g : Geo} {A : Nat → Prop} {H0 H : Heap} {locs : List Loc} {cells slots : Nat} {Q : State → Prop} {own : String} {cc : ByteArray} {nL : Nat} {pc : Nat} {ls : Array Slot} {rest : List Value} {h0 ci : Nat} {fs : List Value} {ws : va_W}
theorem ct_aload {lv : List (Nat × Value)} {i : Fin 4} {x : Nat} (C : Ct own cc nL p s m args meth c g A H0) (hl : lv_has ls nL lv) (k : Nat) (hk : lv[k]? = some ((i : Nat), .ref x)) (hd : decode cc pc = .ok (.aload_n i, 1)) (kk : W p l e R s m args below meth c H locs cells slots Q (F0 m (pc + 1) ls (.ref x :: rest))) : W p l e R s m args below meth c H locs cells slots Q (F0 m pc ls rest) :=
  lv_aload_n C.1 C.2.1 hd rfl (lv_at hl k hk) kk
theorem ct_iconst {n : Int} (C : Ct own cc nL p s m args meth c g A H0) (hd : decode cc pc = .ok (.iconst n, 1)) (kk : W p l e R s m args below meth c H locs cells slots Q (F0 m (pc + 1) ls (.int (iI n) :: rest))) : W p l e R s m args below meth c H locs cells slots Q (F0 m pc ls rest) :=
  lv_iconst C.1 C.2.1 hd rfl kk
theorem ct_bipush {n : Int} (C : Ct own cc nL p s m args meth c g A H0) (hd : decode cc pc = .ok (.bipush n, 2)) (hv : (Int8.ofInt n).toInt32 = iI n) (kk : W p l e R s m args below meth c H locs cells slots Q (F0 m (pc + 2) ls (.int (iI n) :: rest))) : W p l e R s m args below meth c H locs cells slots Q (F0 m pc ls rest) :=
  lv_bipush C.1 C.2.1 hd hv kk
theorem ct_sipush {n : Int} (C : Ct own cc nL p s m args meth c g A H0) (hd : decode cc pc = .ok (.sipush n, 3)) (hv : (Int16.ofInt n).toInt32 = iI n) (kk : W p l e R s m args below meth c H locs cells slots Q (F0 m (pc + 3) ls (.int (iI n) :: rest))) : W p l e R s m args below meth c H locs cells slots Q (F0 m pc ls rest) :=
  lv_sipush C.1 C.2.1 hd hv kk
theorem ct_ldc {idx : Nat} {v : Int32} {z : Int} (C : Ct own cc nL p s m args meth c g A H0) (hw : Cond.constant own idx v ∈ G) (hz : v = iI z) (hd : decode cc pc = .ok (.ldc idx, 2)) (kk : W p l e R s m args below meth c H locs cells slots Q (F0 m (pc + 2) ls (.int (iI z) :: rest))) : W p l e R s m args below meth c H locs cells slots Q (F0 m pc ls rest) := by
  subst hz
  exact lv_ldc C.1 C.2.1 C.2.2.2.1 (C.2.2.2.2.1 _ hw) hd kk
theorem ct_obj {idx b : Nat} (C : Ct own cc nL p s m args meth c g A H0) (hsz : ls.size = nL) (hw : Cond.methodLink own idx objectInit ∈ G) (hfr : 1 ≤ R.frames) (hlo : 20 ≤ R.locals) (hcat : (rest.map fun v => v.category).sum ≤ 8) (hd : decode cc pc = .ok (.invokespecial idx, 3)) (kk : W p l e R s m args below meth c H locs cells slots Q (F0 m (pc + 3) ls rest)) : W p l e R s m args below meth c H locs cells slots Q (F0 m pc ls (.ref b :: rest)) := by
  have hr := lv_room (m := m) (pc := pc) (ls := ls) (rest := .ref b :: rest) (st := rest) hcat
  exact W.objInit C.1 C.2.1 C.2.2.2.1 (C.2.2.2.2.1 _ hw) (C.2.2.2.2.1 _ oi_inst) (C.2.2.2.2.1 _ oi_code) rfl (hsz.trans C.2.2.1.symm) rfl hd hfr (by omega) kk
theorem ct_putF {idx k : Nat} {t : FieldType} {v : Value} (C : Ct own cc nL p s m args meth c g A H0) (hF : FC own idx ci k t) (hn : narrow t v = v) (hfit : fits t v = true) (hd : decode cc pc = .ok (.putfield idx, 3)) (hI : CtI g A H0 h0 ci fs ws H locs) (kk : ∀ H1 locs1, CtI g A H0 h0 ci (fs.set k v) ws H1 locs1 → W p l e R s m args below meth c H1 locs1 cells slots Q (F0 m (pc + 3) ls rest)) : W p l e R s m args below meth c H locs cells slots Q (F0 m pc ls (v :: .ref h0 :: rest)) := by
  obtain ⟨C1, T, N, ty, h1, h2, h3, h4, h5, h6, h7, h8, h9, h10⟩ := hF
  have hty : parseFieldDescriptor (T k).2.2.1 = some t := by rw [h4 k h6, h10]
  refine va_putF C.1 C.2.1 C.2.2.2.2.1 h3 ty h4 h5 C.2.2.2.1 C.2.2.2.2.2.1 hI.1 hI.2.1 hI.2.2.1 0 rfl h1 k h6 (C.2.2.2.2.1 _ h7) (fun _ h => h) h8 C.2.2.2.2.2.2.2.1 h9 hty hn hfit (by rw [hI.2.2.2]; omega) hd (fun H1 locs1 hP hD hS1 => ?_)
  exact kk H1 locs1 ⟨hP, hD, hS1, by rw [List.length_set]; exact hI.2.2.2⟩
theorem ct_put {idx k : Nat} {t : FieldType} {v : Value} (C : Ct own cc nL p s m args meth c g A H0) (hF : FP own idx ci k t) (hn : narrow t v = v) (hfit : fits t v = true) (hd : decode cc pc = .ok (.putfield idx, 3)) (hI : CtI g A H0 h0 ci fs ws H locs) (kk : ∀ H1 locs1, CtI g A H0 h0 ci (fs.set k v) ws H1 locs1 → W p l e R s m args below meth c H1 locs1 cells slots Q (F0 m (pc + 3) ls rest)) : W p l e R s m args below meth c H locs cells slots Q (F0 m pc ls (v :: .ref h0 :: rest)) := by
  obtain ⟨C1, T, N, ty, h1, h2, h3, h4, h5, h6, h7, h8, h9⟩ := hF
  have hty : parseFieldDescriptor (T k).2.2.1 = some t := by rw [h4 k h6, h9]
  refine va_put C.1 C.2.1 C.2.2.2.2.1 h3 ty h4 h5 C.2.2.2.1 C.2.2.2.2.2.1 hI.1 hI.2.1 hI.2.2.1 0 rfl h1 k h6 (C.2.2.2.2.1 _ h7) (fun _ h => h) h8 hty hn hfit (by rw [hI.2.2.2]; omega) hd (fun H1 locs1 hP hD hS1 => ?_)
  exact kk H1 locs1 ⟨hP, hD, hS1, by rw [List.length_set]; exact hI.2.2.2⟩
theorem ct_newa {t n : Nat} {z : Int} {aty : ArrayType} {ty : FieldType} (C : Ct own cc nL p s m args meth c g A H0) (hty : newarray.typeOf aty = ty) (hw : Cond.arrayClass ty ∈ G) (ht : t < 3) (hat : atys[t]? = some ty) (hdef : defaultValue ty = .int (iI 0)) (hz : z = n) (hn : n ≤ 4096) (hby : n * componentBytes ty ≤ 536870912) (hc : cells + 1 ≤ R.cells) (hs : slots + n ≤ R.slots) (hd : decode cc pc = .ok (.newarray aty, 2)) (hI : CtI g A H0 h0 ci fs ws H locs)
    (kk : ∀ (q : Nat) (H1 : Heap), CtI g A H0 h0 ci fs (ws ++ [(q, zar g t n)]) H1 locs → W p l e R s m args below meth c H1 locs (cells + 1) (slots + n) Q (F0 m (pc + 2) ls (.ref q :: rest))) : W p l e R s m args below meth c H locs cells slots Q (F0 m pc ls (.int (iI z) :: rest)) := by
  subst hz
  have hK := C.2.2.2.2.2.1
  have hnn : ¬ iI (n : Int) < 0 := fun h => by
    have := (iI_lt (a := (n : Int)) (b := 0) ⟨by omega, by omega⟩ inR0).mp h
    omega
  refine va_newa (a0 := (n, .inl (fun _ => iI 0))) C.1 C.2.1 (by rw [hty]; exact C.2.2.2.2.1 _ hw) hty hK hI.1 hI.2.1 hI.2.2.1 C.2.2.2.2.2.2.1 (fun cA => by rw [hdef]; rfl) hnn (by rw [iI_clamp (by omega) (by omega)]; rfl) hby hc hs hd (fun q cA H1 hK1 hP1 hD1 hS1 => ?_)
  have e1 : cA = acls g t := ra_uniq ht hat (hK1.2 4 (cA, ty) rfl).2 (hK.2 t _ (tysG_at g hat)).2
  subst e1
  exact kk q H1 ⟨hP1, hD1, hS1, hI.2.2.2⟩
/-- 'new', 'dup', the constructor: n cells more -/
theorem ct_make {idx idx2 ci2 cb n mc ms fr lo nL2 : Nat} {y : MethodName} {cc2 : ByteArray} {σ : Mem} {T : u_T} {N : Nat} {ty : Nat → FieldType} (C : Ct own cc nL p s m args meth c g A H0) (hown : own = RX7) (hM : CtMet y cc2 nL2 ci2 cb n mc ms fr lo σ) (hsz : ls.size = nL) (hcl : vwCl[ci2]? = some (y.cls, T, N)) (hfN : nfld ci2 = N) (huw : ∀ w ∈ u_ws y.cls T N, w ∈ G) (hty : ∀ k, k < N → parseFieldDescriptor (T k).2.2.1 = some (ty k)) (hdf : ∀ k, k < N → defaultValue (ty k) = vp_V (fz ci2) k)
    (hw1 : Cond.classLink own idx y.cls ∈ G) (hw2 : Cond.instantiable y.cls N ∈ G) (hw3 : Cond.initialized y.cls ∈ G) (hw4 : (idx2, y) ∈ nestI) (hw5 : Cond.instanceMethod y ∈ G) (hw6 : Cond.code y cc2 nL2 none ∈ G) (hyn : y.name = "<init>") (hy : y.cls ≠ "java/lang/invoke/MethodHandle" ∧ y.cls ≠ "java/lang/invoke/VarHandle" ∧ (parseMethodDescriptor y.desc).map (fun d => d.parameters.length) = some 0)
    (hd0 : decode cc pc = .ok (.new idx, 3)) (hd3 : decode cc (pc + 3) = .ok (.dup, 1)) (hd4 : decode cc (pc + 4) = .ok (.invokespecial idx2, 3)) (hfr : fr + 1 ≤ R.frames) (hlo : 8 + (nL2 + 11) + lo ≤ R.locals) (hc : cells + 1 + mc ≤ R.cells) (hs : slots + N + ms ≤ R.slots) (hcat : (rest.map fun v => v.category).sum ≤ 7) (hI : CtI g A H0 h0 ci fs ws H locs)
    (kk : ∀ (u : Nat → Nat) (H1 : Heap) (locs1 : List Loc), CtI g A H0 h0 ci fs (ws ++ blk (u, g.2) σ cb n) H1 locs1 → W p l e R s m args below meth c H1 locs1 (cells + 1 + mc) (slots + N + ms) Q (F0 m (pc + 7) ls (.ref (u cb) :: rest))) : W p l e R s m args below meth c H locs cells slots Q (F0 m pc ls rest) := by
  subst hown
  have hts := C.2.2.2.2.1
  have hK := C.2.2.2.2.2.1
  refine va_new (ci := ci2) (fs := fz ci2) (C := y.cls) (T := T) (N := N) C.1 C.2.1 hts huw ty hty C.2.2.2.1 (hts _ hw1) (hts _ hw2) (hts _ hw3) hK hI.1 hI.2.1 hI.2.2.1 C.2.2.2.2.2.2.1 hcl hdf (by omega) (by omega) hd0 (fun q H1 hP1 hD1 hS1 => ?_)
  refine lv_dup C.1 C.2.1 hd3 rfl ?_
  have hF : ∀ q2, va_A [(q, .inr (ci2, fz ci2))] H1.size q2 → A q2 := by
    intro q2 h
    rcases h with ⟨k, x, h⟩ | h
    · have h1 := List.mem_singleton.mp (List.mem_of_getElem? h)
      cases h1
      exact hD1.2 (((h0, .inr (ci, fs)) :: ws).length) (q, .inr (ci2, fz ci2)) (by simp)
    · exact C.2.2.2.2.2.2.1 q2 (Nat.le_trans hS1.1 h)
  have hPc : va_P g.2.1 vwCl [(q, .inr (ci2, fz ci2))] H1 := by
    intro k x hx
    have h1 := List.mem_singleton.mp (List.mem_of_getElem? hx)
    subst h1
    exact hP1 (((h0, .inr (ci, fs)) :: ws).length) (q, .inr (ci2, fz ci2)) (by simp)
  refine va_callv (va_runIN (As := []) (rest := .ref q :: rest) ⟨C.1, C.2.1, C.2.2.1, C.2.2.2.1, hts⟩ (hM l g q H1.size) ⟨va_cnB 0 hts (goodG (fun _ h => h) hw6) rfl rfl rfl (C.2.2.2.2.2.2.2.2.1 _ hw4) (hts _ hw3) hy ⟨hfr, hlo⟩, hyn, hts _ hw5⟩ ⟨CtB_blind g q H1.size ci2 _, fun U hU hWU => ⟨rfl, by rw [hU], by rw [hU]; exact hPc, va_K.moved hWU.alike hK, C.2.2.2.2.2.2.2.2.warm hWU⟩⟩ rfl rfl hsz rfl (lv_room ?_) hd4 ⟨hc, hs⟩) hS1 (fun q2 _ h => hF q2 h) hF (fun u t H2 locs2 ht hvm hu hB hz1 hk1 hS2 => ?_)
  · show (Value.ref q).category + (rest.map fun v => v.category).sum ≤ 8
    show 1 + _ ≤ 8
    omega
  · obtain ⟨hP2, hD2⟩ := hB
    rw [ht] at hP2
    obtain ⟨hP3, hD3⟩ := va_joinE (front := (h0, .inr (ci, fs)) :: ws) hP1 hD1 hk1 hF hP2 hD2
    have := kk u H2 locs2 ⟨hP3, hD3, hS2, hI.2.2.2⟩
    rw [hu] at this
    exact this
end CTOR
