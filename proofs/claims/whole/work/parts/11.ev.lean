/-! locals -/
def LR (g : Geo) (ls : Array Slot) (nL : Nat) (ab : List (Option Value)) : Prop := ls.size = nL ∧ lv_wf ls ∧ ∀ (i : Nat) (v : Value), ab[i]? = some (some v) → ls[i]? = some (.val (tr g v))
def lvl (g : Geo) (ab : List (Option Value)) : List (Nat × Value) := (List.range ab.length).filterMap (fun i => (ab[i]?.join).map (fun v => (i, tr g v)))
theorem lvl_mem {g : Geo} {ab : List (Option Value)} {i : Nat} {v : Value} (h : ab[i]? = some (some v)) : (i, tr g v) ∈ lvl g ab := by
  refine List.mem_filterMap.mpr ⟨i, List.mem_range.mpr (List.getElem?_eq_some_iff.mp h).1, ?_⟩
  rw [h]; rfl
theorem LR.has {g : Geo} {ls : Array Slot} {nL : Nat} {ab : List (Option Value)} (h : LR g ls nL ab) : lv_has ls nL (lvl g ab) := by
  refine ⟨h.1, h.2.1, fun q hq => ?_⟩
  obtain ⟨i, -, hi⟩ := List.mem_filterMap.mp hq
  obtain ⟨v, hv, rfl⟩ := Option.map_eq_some_iff.mp hi
  exact h.2.2 i v (Option.join_eq_some_iff.mp hv)
def nolong (ab : List (Option Value)) (i : Nat) : Bool := match i with
  | 0 => true
  | j + 1 => match ab[j]? with
    | some (some v) => v.category != 2
    | _ => true
theorem LR.store {g : Geo} {ls' : Array Slot} {nL : Nat} {ab : List (Option Value)} {i : Nat} {v : Value} (hn : nolong ab i = true)
    (h : lv_has ls' nL ((i, tr g v) :: (lvl g ab).filter (fun q => !(q.1 == i) && !(q.1 + 1 == i && q.2.category == 2)))) : LR g ls' nL (ab.set i (some v)) := by
  refine ⟨h.1, h.2.1, fun j w hj => ?_⟩
  by_cases hji : j = i
  · subst hji
    have hl : j < ab.length := by
      have := (List.getElem?_eq_some_iff.mp hj).1
      simpa using this
    rw [List.getElem?_set_self hl] at hj
    cases hj
    exact h.2.2 _ List.mem_cons_self
  · rw [List.getElem?_set_ne (Ne.symm hji)] at hj
    refine h.2.2 (j, tr g w) (List.mem_cons_of_mem _ (List.mem_filter.mpr ⟨lvl_mem hj, ?_⟩))
    have h1 : (j == i) = false := by simpa using hji
    by_cases h2 : j + 1 = i
    · subst h2
      have h3 : (w.category != 2) = true := by
        have := hn
        simp only [nolong, hj] at this
        exact this
      have h4 : (w.category == 2) = false := by simpa using h3
      simp [h1, tr_cat, h4]
    · have h5 : (j + 1 == i) = false := by simpa using h2
      simp [h1, h5]
/-! the run -/
def isRet (cc : ByteArray) (pc : Nat) (v : Option Value) : Prop := match v with
  | none => decode cc pc = .ok (.return_, 1)
  | some (.int _) => decode cc pc = .ok (.ireturn, 1)
  | some (.long _) => decode cc pc = .ok (.lreturn, 1)
  | _ => False
def Cx (own : String) (cc : ByteArray) (nL fr lo : Nat) (p : Program) (R : Room) (s : State) (m : MethodId) (args : Array Value) (c : Code) (g : Geo) (A : Nat → Prop) (H0 : Heap) (cells slots : Nat) : Prop :=
  p.tables.exec = Jvm.exec ∧ c.code = cc ∧ c.maxLocals = nL ∧ s.vm.findClass own = some m.cls ∧ (∀ w ∈ G, w.before args s = true) ∧ (va_K g.2.1 vwCl (tysG g) s ∧ XA g A s H0) ∧ (∀ k, k < NC → A (g.1 k)) ∧ fr ≤ R.frames ∧ lo ≤ R.locals ∧ cells ≤ R.cells ∧ slots ≤ R.slots
def Ev (own : String) (cc : ByteArray) (nL fr lo : Nat) (Φ : Option Value → Mem → Prop) (pc : Nat) (ab : List (Option Value)) (st : List Value) (σ : Mem) : Prop :=
  ∀ (p : Program) (l : Launch) (e : Env) (R : Room) (s : State) (m : MethodId) (args : Array Value) (below : List Frame) (meth : Method) (c : Code) (g : Geo) (A : Nat → Prop) (H0 : Heap) (cells slots : Nat) (Q : State → Prop) (H : Heap) (locs : List Loc) (ls : Array Slot),
    Cx own cc nL fr lo p R s m args c g A H0 cells slots → Wd g σ H → va_S A H0 H locs → LR g ls nL ab →
    (∀ (v : Option Value) (σ' : Mem) (pc' : Nat) (H' : Heap) (locs' : List Loc) (ls' : Array Slot), Φ v σ' → isRet cc pc' v → Wd g σ' H' → va_S A H0 H' locs' → W p l e R s m args below meth c H' locs' cells slots Q (F0 m pc' ls' ((v.map (tr g)).toList))) →
    W p l e R s m args below meth c H locs cells slots Q (F0 m pc ls (st.map (tr g)))
section EV
variable {own : String} {cc : ByteArray} {nL fr lo : Nat} {Φ : Option Value → Mem → Prop} {pc : Nat} {ab : List (Option Value)} {st : List Value} {σ : Mem}
theorem ev_w (h : Rng σ → Ev own cc nL fr lo Φ pc ab st σ) : Ev own cc nL fr lo Φ pc ab st σ := by
  intro p l e R s m args below meth c g A H0 cells slots Q H locs ls C hW
  exact h hW.2.2 p l e R s m args below meth c g A H0 cells slots Q H locs ls C hW
theorem ev_ret (v : Option Value) (hv : Φ v σ) (hr : isRet cc pc v) : Ev own cc nL fr lo Φ pc ab v.toList σ := by
  intro p l e R s m args below meth c g A H0 cells slots Q H locs ls C hW hS hL hret
  have := hret v σ pc H locs ls hv hr hW hS
  cases v with
  | none => exact this
  | some w => exact this
theorem ev_ireturn {z : Int32} (hd : decode cc pc = .ok (.ireturn, 1)) (hv : Φ (some (.int z)) σ) : Ev own cc nL fr lo Φ pc ab [.int z] σ := ev_ret (some (.int z)) hv hd
theorem ev_lreturn {z : Int64} (hd : decode cc pc = .ok (.lreturn, 1)) (hv : Φ (some (.long z)) σ) : Ev own cc nL fr lo Φ pc ab [.long z] σ := ev_ret (some (.long z)) hv hd
theorem ev_return (hd : decode cc pc = .ok (.return_, 1)) (hv : Φ none σ) : Ev own cc nL fr lo Φ pc ab [] σ := ev_ret none hv hd
theorem ev_iconst {n : Int} (hd : decode cc pc = .ok (.iconst n, 1)) (k : Ev own cc nL fr lo Φ (pc + 1) ab (.int (iI n) :: st) σ) : Ev own cc nL fr lo Φ pc ab st σ := by
  intro p l e R s m args below meth c g A H0 cells slots Q H locs ls C hW hS hL hret
  exact lv_iconst C.1 C.2.1 hd rfl (k p l e R s m args below meth c g A H0 cells slots Q H locs ls C hW hS hL hret)
theorem ev_bipush {n : Int} (hd : decode cc pc = .ok (.bipush n, 2)) (hv : (Int8.ofInt n).toInt32 = iI n) (k : Ev own cc nL fr lo Φ (pc + 2) ab (.int (iI n) :: st) σ) : Ev own cc nL fr lo Φ pc ab st σ := by
  intro p l e R s m args below meth c g A H0 cells slots Q H locs ls C hW hS hL hret
  exact lv_bipush C.1 C.2.1 hd hv (k p l e R s m args below meth c g A H0 cells slots Q H locs ls C hW hS hL hret)
theorem ev_sipush {n : Int} (hd : decode cc pc = .ok (.sipush n, 3)) (hv : (Int16.ofInt n).toInt32 = iI n) (k : Ev own cc nL fr lo Φ (pc + 3) ab (.int (iI n) :: st) σ) : Ev own cc nL fr lo Φ pc ab st σ := by
  intro p l e R s m args below meth c g A H0 cells slots Q H locs ls C hW hS hL hret
  exact lv_sipush C.1 C.2.1 hd hv (k p l e R s m args below meth c g A H0 cells slots Q H locs ls C hW hS hL hret)
theorem ev_lconst {n : Fin 2} {z : Int} (hd : decode cc pc = .ok (.lconst n, 1)) (hv : Int64.ofNat (n : Nat) = lI z) (k : Ev own cc nL fr lo Φ (pc + 1) ab (.long (lI z) :: st) σ) : Ev own cc nL fr lo Φ pc ab st σ := by
  intro p l e R s m args below meth c g A H0 cells slots Q H locs ls C hW hS hL hret
  exact lv_lconst C.1 C.2.1 hd hv (k p l e R s m args below meth c g A H0 cells slots Q H locs ls C hW hS hL hret)
theorem ev_iload_n {i : Fin 4} {x : Int32} (hd : decode cc pc = .ok (.iload_n i, 1)) (hl : ab[(i : Nat)]? = some (some (.int x))) (k : Ev own cc nL fr lo Φ (pc + 1) ab (.int x :: st) σ) : Ev own cc nL fr lo Φ pc ab st σ := by
  intro p l e R s m args below meth c g A H0 cells slots Q H locs ls C hW hS hL hret
  exact lv_iload_n C.1 C.2.1 hd rfl (hL.2.2 _ _ hl) (k p l e R s m args below meth c g A H0 cells slots Q H locs ls C hW hS hL hret)
theorem ev_iload {i : Nat} {x : Int32} (hd : decode cc pc = .ok (.iload i, 2)) (hl : ab[i]? = some (some (.int x))) (k : Ev own cc nL fr lo Φ (pc + 2) ab (.int x :: st) σ) : Ev own cc nL fr lo Φ pc ab st σ := by
  intro p l e R s m args below meth c g A H0 cells slots Q H locs ls C hW hS hL hret
  exact lv_iload C.1 C.2.1 hd (hL.2.2 _ _ hl) (k p l e R s m args below meth c g A H0 cells slots Q H locs ls C hW hS hL hret)
theorem ev_lload_n {i : Fin 4} {x : Int64} (hd : decode cc pc = .ok (.lload_n i, 1)) (hl : ab[(i : Nat)]? = some (some (.long x))) (k : Ev own cc nL fr lo Φ (pc + 1) ab (.long x :: st) σ) : Ev own cc nL fr lo Φ pc ab st σ := by
  intro p l e R s m args below meth c g A H0 cells slots Q H locs ls C hW hS hL hret
  exact lv_lload_n C.1 C.2.1 hd rfl (hL.2.2 _ _ hl) (k p l e R s m args below meth c g A H0 cells slots Q H locs ls C hW hS hL hret)
theorem ev_lload {i : Nat} {x : Int64} (hd : decode cc pc = .ok (.lload i, 2)) (hl : ab[i]? = some (some (.long x))) (k : Ev own cc nL fr lo Φ (pc + 2) ab (.long x :: st) σ) : Ev own cc nL fr lo Φ pc ab st σ := by
  intro p l e R s m args below meth c g A H0 cells slots Q H locs ls C hW hS hL hret
  exact lv_lload C.1 C.2.1 hd (hL.2.2 _ _ hl) (k p l e R s m args below meth c g A H0 cells slots Q H locs ls C hW hS hL hret)
theorem ev_aload_n {i : Fin 4} {x : Nat} (hd : decode cc pc = .ok (.aload_n i, 1)) (hl : ab[(i : Nat)]? = some (some (.ref x))) (k : Ev own cc nL fr lo Φ (pc + 1) ab (.ref x :: st) σ) : Ev own cc nL fr lo Φ pc ab st σ := by
  intro p l e R s m args below meth c g A H0 cells slots Q H locs ls C hW hS hL hret
  exact lv_aload_n C.1 C.2.1 hd rfl (hL.2.2 _ _ hl) (k p l e R s m args below meth c g A H0 cells slots Q H locs ls C hW hS hL hret)
theorem ev_istore_n {i : Fin 4} {x : Int32} (hd : decode cc pc = .ok (.istore_n i, 1)) (hn : nolong ab (i : Nat) = true) (hi : (i : Nat) < nL) {ab' : List (Option Value)} (ha : ab.set (i : Nat) (some (.int x)) = ab') (k : Ev own cc nL fr lo Φ (pc + 1) ab' st σ) : Ev own cc nL fr lo Φ pc ab (.int x :: st) σ := by
  intro p l e R s m args below meth c g A H0 cells slots Q H locs ls C hW hS hL hret
  refine lv_istore_n C.1 C.2.1 hd rfl hL.has hi rfl (fun ls' h' => ?_)
  subst ha
  exact k p l e R s m args below meth c g A H0 cells slots Q H locs ls' C hW hS (LR.store (v := .int x) hn h') hret
theorem ev_istore {i : Nat} {x : Int32} (hd : decode cc pc = .ok (.istore i, 2)) (hn : nolong ab i = true) (hi : i < nL) {ab' : List (Option Value)} (ha : ab.set i (some (.int x)) = ab') (k : Ev own cc nL fr lo Φ (pc + 2) ab' st σ) : Ev own cc nL fr lo Φ pc ab (.int x :: st) σ := by
  intro p l e R s m args below meth c g A H0 cells slots Q H locs ls C hW hS hL hret
  refine lv_istore C.1 C.2.1 hd hL.has hi rfl (fun ls' h' => ?_)
  subst ha
  exact k p l e R s m args below meth c g A H0 cells slots Q H locs ls' C hW hS (LR.store (v := .int x) hn h') hret
theorem ev_astore_n {i : Fin 4} {x : Nat} (hd : decode cc pc = .ok (.astore_n i, 1)) (hn : nolong ab (i : Nat) = true) (hi : (i : Nat) < nL) {ab' : List (Option Value)} (ha : ab.set (i : Nat) (some (.ref x)) = ab') (k : Ev own cc nL fr lo Φ (pc + 1) ab' st σ) : Ev own cc nL fr lo Φ pc ab (.ref x :: st) σ := by
  intro p l e R s m args below meth c g A H0 cells slots Q H locs ls C hW hS hL hret
  refine lv_astore_n C.1 C.2.1 hd rfl hL.has hi rfl (fun ls' h' => ?_)
  subst ha
  exact k p l e R s m args below meth c g A H0 cells slots Q H locs ls' C hW hS (LR.store (v := .ref x) hn h') hret
theorem ev_iinc {i : Nat} {n : Int} {z : Int} (hd : decode cc pc = .ok (.iinc i n, 3)) (hl : ab[i]? = some (some (.int (iI z)))) (hn : nolong ab i = true) (hi : i < nL) {ab' : List (Option Value)} (ha : ab.set i (some (.int (iI (z + n)))) = ab') (k : Ev own cc nL fr lo Φ (pc + 3) ab' st σ) : Ev own cc nL fr lo Φ pc ab st σ := by
  intro p l e R s m args below meth c g A H0 cells slots Q H locs ls C hW hS hL hret
  obtain ⟨j, hj⟩ := List.getElem?_of_mem (lvl_mem (g := g) hl)
  refine lv_iinc C.1 C.2.1 hd hL.has hj (v := iI (z + n)) (iI_add z n) hi rfl (fun ls' h' => ?_)
  subst ha
  exact k p l e R s m args below meth c g A H0 cells slots Q H locs ls' C hW hS (LR.store (v := .int (iI (z + n))) hn h') hret
theorem ev_iadd {x y : Int} (hd : decode cc pc = .ok (.iadd, 1)) (k : Ev own cc nL fr lo Φ (pc + 1) ab (.int (iI (x + y)) :: st) σ) : Ev own cc nL fr lo Φ pc ab (.int (iI y) :: .int (iI x) :: st) σ := by
  intro p l e R s m args below meth c g A H0 cells slots Q H locs ls C hW hS hL hret
  refine lv_iadd C.1 C.2.1 hd ?_
  rw [iI_add]
  exact k p l e R s m args below meth c g A H0 cells slots Q H locs ls C hW hS hL hret
theorem ev_isub {x y : Int} (hd : decode cc pc = .ok (.isub, 1)) (k : Ev own cc nL fr lo Φ (pc + 1) ab (.int (iI (x - y)) :: st) σ) : Ev own cc nL fr lo Φ pc ab (.int (iI y) :: .int (iI x) :: st) σ := by
  intro p l e R s m args below meth c g A H0 cells slots Q H locs ls C hW hS hL hret
  refine lv_isub C.1 C.2.1 hd ?_
  rw [iI_sub]
  exact k p l e R s m args below meth c g A H0 cells slots Q H locs ls C hW hS hL hret
theorem ev_imul {x y : Int} (hd : decode cc pc = .ok (.imul, 1)) (k : Ev own cc nL fr lo Φ (pc + 1) ab (.int (iI (x * y)) :: st) σ) : Ev own cc nL fr lo Φ pc ab (.int (iI y) :: .int (iI x) :: st) σ := by
  intro p l e R s m args below meth c g A H0 cells slots Q H locs ls C hW hS hL hret
  refine lv_imul C.1 C.2.1 hd ?_
  rw [iI_mul]
  exact k p l e R s m args below meth c g A H0 cells slots Q H locs ls C hW hS hL hret
theorem ev_ineg {x : Int} (hd : decode cc pc = .ok (.ineg, 1)) (k : Ev own cc nL fr lo Φ (pc + 1) ab (.int (iI (-x)) :: st) σ) : Ev own cc nL fr lo Φ pc ab (.int (iI x) :: st) σ := by
  intro p l e R s m args below meth c g A H0 cells slots Q H locs ls C hW hS hL hret
  refine lv_ineg C.1 C.2.1 hd ?_
  rw [iI_neg]
  exact k p l e R s m args below meth c g A H0 cells slots Q H locs ls C hW hS hL hret
theorem ev_iand {x y : Int} (hd : decode cc pc = .ok (.iand, 1)) (k : Ev own cc nL fr lo Φ (pc + 1) ab (.int (iI (band x y)) :: st) σ) : Ev own cc nL fr lo Φ pc ab (.int (iI y) :: .int (iI x) :: st) σ := by
  intro p l e R s m args below meth c g A H0 cells slots Q H locs ls C hW hS hL hret
  refine lv_iand C.1 C.2.1 hd ?_
  rw [← iI_of (iI x &&& iI y)]
  exact k p l e R s m args below meth c g A H0 cells slots Q H locs ls C hW hS hL hret
theorem ev_ior {x y : Int} (hd : decode cc pc = .ok (.ior, 1)) (k : Ev own cc nL fr lo Φ (pc + 1) ab (.int (iI (bor x y)) :: st) σ) : Ev own cc nL fr lo Φ pc ab (.int (iI y) :: .int (iI x) :: st) σ := by
  intro p l e R s m args below meth c g A H0 cells slots Q H locs ls C hW hS hL hret
  refine lv_ior C.1 C.2.1 hd ?_
  rw [← iI_of (iI x ||| iI y)]
  exact k p l e R s m args below meth c g A H0 cells slots Q H locs ls C hW hS hL hret
theorem ev_ixor {x y : Int} (hd : decode cc pc = .ok (.ixor, 1)) (k : Ev own cc nL fr lo Φ (pc + 1) ab (.int (iI (bxor x y)) :: st) σ) : Ev own cc nL fr lo Φ pc ab (.int (iI y) :: .int (iI x) :: st) σ := by
  intro p l e R s m args below meth c g A H0 cells slots Q H locs ls C hW hS hL hret
  refine lv_ixor C.1 C.2.1 hd ?_
  rw [← iI_of (iI x ^^^ iI y)]
  exact k p l e R s m args below meth c g A H0 cells slots Q H locs ls C hW hS hL hret
theorem ev_ishl {x y : Int} (hd : decode cc pc = .ok (.ishl, 1)) (k : Ev own cc nL fr lo Φ (pc + 1) ab (.int (iI (bshl x y)) :: st) σ) : Ev own cc nL fr lo Φ pc ab (.int (iI y) :: .int (iI x) :: st) σ := by
  intro p l e R s m args below meth c g A H0 cells slots Q H locs ls C hW hS hL hret
  refine lv_ishl C.1 C.2.1 hd ?_
  rw [← iI_of (iI x <<< (iI y &&& 31))]
  exact k p l e R s m args below meth c g A H0 cells slots Q H locs ls C hW hS hL hret
theorem ev_ishr {x y : Int} (hd : decode cc pc = .ok (.ishr, 1)) (k : Ev own cc nL fr lo Φ (pc + 1) ab (.int (iI (bshr x y)) :: st) σ) : Ev own cc nL fr lo Φ pc ab (.int (iI y) :: .int (iI x) :: st) σ := by
  intro p l e R s m args below meth c g A H0 cells slots Q H locs ls C hW hS hL hret
  refine lv_ishr C.1 C.2.1 hd ?_
  rw [← iI_of (iI x >>> (iI y &&& 31))]
  exact k p l e R s m args below meth c g A H0 cells slots Q H locs ls C hW hS hL hret
theorem ev_idiv {x y : Int} (hd : decode cc pc = .ok (.idiv, 1)) (hx : inR x) (hy : inR y) (h0 : y ≠ 0) (h1 : y ≠ -1) (k : Ev own cc nL fr lo Φ (pc + 1) ab (.int (iI (x.tdiv y)) :: st) σ) : Ev own cc nL fr lo Φ pc ab (.int (iI y) :: .int (iI x) :: st) σ := by
  intro p l e R s m args below meth c g A H0 cells slots Q H locs ls C hW hS hL hret
  refine lv_idiv C.1 C.2.1 hd (fun h => h0 ((iI_eq hy inR0).mp h)) ?_
  rw [iI_tdiv hx hy h1]
  exact k p l e R s m args below meth c g A H0 cells slots Q H locs ls C hW hS hL hret
theorem ev_irem {x y : Int} (hd : decode cc pc = .ok (.irem, 1)) (hx : inR x) (hy : inR y) (h0 : y ≠ 0) (h1 : y ≠ -1) (k : Ev own cc nL fr lo Φ (pc + 1) ab (.int (iI (x.tmod y)) :: st) σ) : Ev own cc nL fr lo Φ pc ab (.int (iI y) :: .int (iI x) :: st) σ := by
  intro p l e R s m args below meth c g A H0 cells slots Q H locs ls C hW hS hL hret
  refine lv_irem C.1 C.2.1 hd (fun h => h0 ((iI_eq hy inR0).mp h)) ?_
  rw [iI_trem hx hy h1]
  exact k p l e R s m args below meth c g A H0 cells slots Q H locs ls C hW hS hL hret
theorem ev_ladd {x y : Int} (hd : decode cc pc = .ok (.ladd, 1)) (k : Ev own cc nL fr lo Φ (pc + 1) ab (.long (lI (x + y)) :: st) σ) : Ev own cc nL fr lo Φ pc ab (.long (lI y) :: .long (lI x) :: st) σ := by
  intro p l e R s m args below meth c g A H0 cells slots Q H locs ls C hW hS hL hret
  refine lv_ladd C.1 C.2.1 hd ?_
  rw [lI_add]
  exact k p l e R s m args below meth c g A H0 cells slots Q H locs ls C hW hS hL hret
theorem ev_lsub {x y : Int} (hd : decode cc pc = .ok (.lsub, 1)) (k : Ev own cc nL fr lo Φ (pc + 1) ab (.long (lI (x - y)) :: st) σ) : Ev own cc nL fr lo Φ pc ab (.long (lI y) :: .long (lI x) :: st) σ := by
  intro p l e R s m args below meth c g A H0 cells slots Q H locs ls C hW hS hL hret
  refine lv_lsub C.1 C.2.1 hd ?_
  rw [lI_sub]
  exact k p l e R s m args below meth c g A H0 cells slots Q H locs ls C hW hS hL hret
theorem ev_lmul {x y : Int} (hd : decode cc pc = .ok (.lmul, 1)) (k : Ev own cc nL fr lo Φ (pc + 1) ab (.long (lI (x * y)) :: st) σ) : Ev own cc nL fr lo Φ pc ab (.long (lI y) :: .long (lI x) :: st) σ := by
  intro p l e R s m args below meth c g A H0 cells slots Q H locs ls C hW hS hL hret
  refine lv_lmul C.1 C.2.1 hd ?_
  rw [lI_mul]
  exact k p l e R s m args below meth c g A H0 cells slots Q H locs ls C hW hS hL hret
theorem ev_land {x y : Int64} (hd : decode cc pc = .ok (.land, 1)) (k : Ev own cc nL fr lo Φ (pc + 1) ab (.long (x &&& y) :: st) σ) : Ev own cc nL fr lo Φ pc ab (.long y :: .long x :: st) σ := by
  intro p l e R s m args below meth c g A H0 cells slots Q H locs ls C hW hS hL hret
  exact lv_land C.1 C.2.1 hd (k p l e R s m args below meth c g A H0 cells slots Q H locs ls C hW hS hL hret)
theorem ev_lor {x y : Int64} (hd : decode cc pc = .ok (.lor, 1)) (k : Ev own cc nL fr lo Φ (pc + 1) ab (.long (x ||| y) :: st) σ) : Ev own cc nL fr lo Φ pc ab (.long y :: .long x :: st) σ := by
  intro p l e R s m args below meth c g A H0 cells slots Q H locs ls C hW hS hL hret
  exact lv_lor C.1 C.2.1 hd (k p l e R s m args below meth c g A H0 cells slots Q H locs ls C hW hS hL hret)
theorem ev_lrem {x y : Int64} (hd : decode cc pc = .ok (.lrem, 1)) (h0 : ¬ y = 0) (k : Ev own cc nL fr lo Φ (pc + 1) ab (.long (x - x / y * y) :: st) σ) : Ev own cc nL fr lo Φ pc ab (.long y :: .long x :: st) σ := by
  intro p l e R s m args below meth c g A H0 cells slots Q H locs ls C hW hS hL hret
  exact lv_lrem C.1 C.2.1 hd h0 (k p l e R s m args below meth c g A H0 cells slots Q H locs ls C hW hS hL hret)
theorem ev_lshl {x v : Int64} {y : Int32} (hd : decode cc pc = .ok (.lshl, 1)) (hv : x <<< (y.toInt64 &&& 63) = v) (k : Ev own cc nL fr lo Φ (pc + 1) ab (.long v :: st) σ) : Ev own cc nL fr lo Φ pc ab (.int y :: .long x :: st) σ := by
  intro p l e R s m args below meth c g A H0 cells slots Q H locs ls C hW hS hL hret
  exact lv_lshl C.1 C.2.1 hd hv (k p l e R s m args below meth c g A H0 cells slots Q H locs ls C hW hS hL hret)
theorem ev_lshr {x v : Int64} {y : Int32} (hd : decode cc pc = .ok (.lshr, 1)) (hv : x >>> (y.toInt64 &&& 63) = v) (k : Ev own cc nL fr lo Φ (pc + 1) ab (.long v :: st) σ) : Ev own cc nL fr lo Φ pc ab (.int y :: .long x :: st) σ := by
  intro p l e R s m args below meth c g A H0 cells slots Q H locs ls C hW hS hL hret
  exact lv_lshr C.1 C.2.1 hd hv (k p l e R s m args below meth c g A H0 cells slots Q H locs ls C hW hS hL hret)
theorem ev_lushr {x v : Int64} {y : Int32} (hd : decode cc pc = .ok (.lushr, 1)) (hv : (x.toUInt64 >>> (y.toInt64.toUInt64 &&& Int64.toUInt64 63)).toInt64 = v) (k : Ev own cc nL fr lo Φ (pc + 1) ab (.long v :: st) σ) : Ev own cc nL fr lo Φ pc ab (.int y :: .long x :: st) σ := by
  intro p l e R s m args below meth c g A H0 cells slots Q H locs ls C hW hS hL hret
  exact lv_lushr C.1 C.2.1 hd hv (k p l e R s m args below meth c g A H0 cells slots Q H locs ls C hW hS hL hret)
theorem ev_i2l {z : Int} (hd : decode cc pc = .ok (.i2l, 1)) (hz : inR z) (k : Ev own cc nL fr lo Φ (pc + 1) ab (.long (lI z) :: st) σ) : Ev own cc nL fr lo Φ pc ab (.int (iI z) :: st) σ := by
  intro p l e R s m args below meth c g A H0 cells slots Q H locs ls C hW hS hL hret
  refine lv_i2l (v := lI z) C.1 C.2.1 hd ?_ (k p l e R s m args below meth c g A H0 cells slots Q H locs ls C hW hS hL hret)
  apply Int64.toInt_inj.mp
  rw [Int32.toInt_toInt64, iI_toInt hz.1 hz.2, lI_toInt (by omega) (by omega)]
theorem ev_l2i {z : Int} (hd : decode cc pc = .ok (.l2i, 1)) (k : Ev own cc nL fr lo Φ (pc + 1) ab (.int (iI z) :: st) σ) : Ev own cc nL fr lo Φ pc ab (.long (lI z) :: st) σ := by
  intro p l e R s m args below meth c g A H0 cells slots Q H locs ls C hW hS hL hret
  exact lv_l2i (v := iI z) C.1 C.2.1 hd Int64.toInt32_ofInt (k p l e R s m args below meth c g A H0 cells slots Q H locs ls C hW hS hL hret)
theorem ev_i2b {x v : Int32} (hd : decode cc pc = .ok (.i2b, 1)) (hv : x.toInt8.toInt32 = v) (k : Ev own cc nL fr lo Φ (pc + 1) ab (.int v :: st) σ) : Ev own cc nL fr lo Φ pc ab (.int x :: st) σ := by
  intro p l e R s m args below meth c g A H0 cells slots Q H locs ls C hW hS hL hret
  exact lv_i2b C.1 C.2.1 hd hv (k p l e R s m args below meth c g A H0 cells slots Q H locs ls C hW hS hL hret)
/-- what lcmp answers, as a whole number -/
def cmpz (a b : Int) : Int := if a < b then -1 else if a = b then 0 else 1
theorem lg_cmp_z {a b : Int} (ha : inL a) (hb : inL b) : lg_cmp (lI a) (lI b) = iI (cmpz a b) := by
  have h1 : (lI a < lI b) ↔ a < b := by rw [Int64.lt_iff_toInt_lt, lI_toInt ha.1 ha.2, lI_toInt hb.1 hb.2]
  have h2 : (lI a = lI b) ↔ a = b := by rw [← Int64.toInt_inj, lI_toInt ha.1 ha.2, lI_toInt hb.1 hb.2]
  have h3 : (lI b < lI a) ↔ b < a := by rw [Int64.lt_iff_toInt_lt, lI_toInt ha.1 ha.2, lI_toInt hb.1 hb.2]
  unfold lg_cmp cmpz
  by_cases c1 : a < b
  · have c3 : ¬ b < a := by omega
    have c2 : ¬ a = b := by omega
    simp [h3, h2, c1, c2, c3]; rfl
  · by_cases c2 : a = b
    · subst c2; simp [h3]; rfl
    · have c3 : b < a := by omega
      simp [h3, c1, c2, c3]; rfl
theorem ev_lcmp {x y : Int} (hd : decode cc pc = .ok (.lcmp, 1)) (hx : inL x) (hy : inL y) (k : Ev own cc nL fr lo Φ (pc + 1) ab (.int (iI (cmpz x y)) :: st) σ) : Ev own cc nL fr lo Φ pc ab (.long (lI y) :: .long (lI x) :: st) σ := by
  intro p l e R s m args below meth c g A H0 cells slots Q H locs ls C hW hS hL hret
  refine W.lcmp C.1 C.2.1 hd ?_
  rw [lg_cmp_z hx hy]
  exact k p l e R s m args below meth c g A H0 cells slots Q H locs ls C hW hS hL hret
theorem ev_dup {v : Value} (hd : decode cc pc = .ok (.dup, 1)) (hv : v.category = 1) (k : Ev own cc nL fr lo Φ (pc + 1) ab (v :: v :: st) σ) : Ev own cc nL fr lo Φ pc ab (v :: st) σ := by
  intro p l e R s m args below meth c g A H0 cells slots Q H locs ls C hW hS hL hret
  exact lv_dup C.1 C.2.1 hd ((tr_cat g v).trans hv) (k p l e R s m args below meth c g A H0 cells slots Q H locs ls C hW hS hL hret)
theorem ev_dup2 {v w : Value} (hd : decode cc pc = .ok (.dup2, 1)) (hv : v.category = 1) (hw : w.category = 1) (k : Ev own cc nL fr lo Φ (pc + 1) ab (v :: w :: v :: w :: st) σ) : Ev own cc nL fr lo Φ pc ab (v :: w :: st) σ := by
  intro p l e R s m args below meth c g A H0 cells slots Q H locs ls C hW hS hL hret
  exact lv_dup2_11 C.1 C.2.1 hd ((tr_cat g v).trans hv) ((tr_cat g w).trans hw) (k p l e R s m args below meth c g A H0 cells slots Q H locs ls C hW hS hL hret)
theorem ev_goto {off : Int} {tgt : Nat} (hd : decode cc pc = .ok (.goto off, 3)) (ht : (pc : Int) + off = (tgt : Int)) (k : Ev own cc nL fr lo Φ tgt ab st σ) : Ev own cc nL fr lo Φ pc ab st σ := by
  intro p l e R s m args below meth c g A H0 cells slots Q H locs ls C hW hS hL hret
  exact lv_goto C.1 C.2.1 hd ht (k p l e R s m args below meth c g A H0 cells slots Q H locs ls C hW hS hL hret)
theorem ev_if_eq {x : Int} {off : Int} {tgt : Nat} (hd : decode cc pc = .ok (.ifCond .eq off, 3)) (ht : (pc : Int) + off = (tgt : Int)) (hx : inR x) (kt : x = 0 → Ev own cc nL fr lo Φ tgt ab st σ) (kf : ¬ (x = 0) → Ev own cc nL fr lo Φ (pc + 3) ab st σ) : Ev own cc nL fr lo Φ pc ab (.int (iI x) :: st) σ := by
  intro p l e R s m args below meth c g A H0 cells slots Q H locs ls C hW hS hL hret
  exact lv_if_eq C.1 C.2.1 hd ht (fun q => kt ((iI_eq hx inR0).mp q) p l e R s m args below meth c g A H0 cells slots Q H locs ls C hW hS hL hret) (fun q => kf (fun z => q ((iI_eq hx inR0).mpr z)) p l e R s m args below meth c g A H0 cells slots Q H locs ls C hW hS hL hret)
theorem ev_icmp_eq {x y : Int} {off : Int} {tgt : Nat} (hd : decode cc pc = .ok (.if_icmp .eq off, 3)) (ht : (pc : Int) + off = (tgt : Int)) (hx : inR x) (hy : inR y) (kt : x = y → Ev own cc nL fr lo Φ tgt ab st σ) (kf : ¬ (x = y) → Ev own cc nL fr lo Φ (pc + 3) ab st σ) : Ev own cc nL fr lo Φ pc ab (.int (iI y) :: .int (iI x) :: st) σ := by
  intro p l e R s m args below meth c g A H0 cells slots Q H locs ls C hW hS hL hret
  exact lv_icmp_eq C.1 C.2.1 hd ht (fun q => kt ((iI_eq hx hy).mp q) p l e R s m args below meth c g A H0 cells slots Q H locs ls C hW hS hL hret) (fun q => kf (fun z => q ((iI_eq hx hy).mpr z)) p l e R s m args below meth c g A H0 cells slots Q H locs ls C hW hS hL hret)
theorem ev_if_ne {x : Int} {off : Int} {tgt : Nat} (hd : decode cc pc = .ok (.ifCond .ne off, 3)) (ht : (pc : Int) + off = (tgt : Int)) (hx : inR x) (kt : ¬ x = 0 → Ev own cc nL fr lo Φ tgt ab st σ) (kf : x = 0 → Ev own cc nL fr lo Φ (pc + 3) ab st σ) : Ev own cc nL fr lo Φ pc ab (.int (iI x) :: st) σ := by
  intro p l e R s m args below meth c g A H0 cells slots Q H locs ls C hW hS hL hret
  exact lv_if_ne C.1 C.2.1 hd ht (fun q => kt ((not_congr (iI_eq hx inR0)).mp q) p l e R s m args below meth c g A H0 cells slots Q H locs ls C hW hS hL hret) (fun q => kf ((iI_eq hx inR0).mp q) p l e R s m args below meth c g A H0 cells slots Q H locs ls C hW hS hL hret)
theorem ev_icmp_ne {x y : Int} {off : Int} {tgt : Nat} (hd : decode cc pc = .ok (.if_icmp .ne off, 3)) (ht : (pc : Int) + off = (tgt : Int)) (hx : inR x) (hy : inR y) (kt : ¬ x = y → Ev own cc nL fr lo Φ tgt ab st σ) (kf : x = y → Ev own cc nL fr lo Φ (pc + 3) ab st σ) : Ev own cc nL fr lo Φ pc ab (.int (iI y) :: .int (iI x) :: st) σ := by
  intro p l e R s m args below meth c g A H0 cells slots Q H locs ls C hW hS hL hret
  exact lv_icmp_ne C.1 C.2.1 hd ht (fun q => kt ((not_congr (iI_eq hx hy)).mp q) p l e R s m args below meth c g A H0 cells slots Q H locs ls C hW hS hL hret) (fun q => kf ((iI_eq hx hy).mp q) p l e R s m args below meth c g A H0 cells slots Q H locs ls C hW hS hL hret)
theorem ev_if_lt {x : Int} {off : Int} {tgt : Nat} (hd : decode cc pc = .ok (.ifCond .lt off, 3)) (ht : (pc : Int) + off = (tgt : Int)) (hx : inR x) (kt : x < 0 → Ev own cc nL fr lo Φ tgt ab st σ) (kf : ¬ (x < 0) → Ev own cc nL fr lo Φ (pc + 3) ab st σ) : Ev own cc nL fr lo Φ pc ab (.int (iI x) :: st) σ := by
  intro p l e R s m args below meth c g A H0 cells slots Q H locs ls C hW hS hL hret
  exact lv_if_lt C.1 C.2.1 hd ht (fun q => kt ((iI_lt hx inR0).mp q) p l e R s m args below meth c g A H0 cells slots Q H locs ls C hW hS hL hret) (fun q => kf (fun z => q ((iI_lt hx inR0).mpr z)) p l e R s m args below meth c g A H0 cells slots Q H locs ls C hW hS hL hret)
theorem ev_icmp_lt {x y : Int} {off : Int} {tgt : Nat} (hd : decode cc pc = .ok (.if_icmp .lt off, 3)) (ht : (pc : Int) + off = (tgt : Int)) (hx : inR x) (hy : inR y) (kt : x < y → Ev own cc nL fr lo Φ tgt ab st σ) (kf : ¬ (x < y) → Ev own cc nL fr lo Φ (pc + 3) ab st σ) : Ev own cc nL fr lo Φ pc ab (.int (iI y) :: .int (iI x) :: st) σ := by
  intro p l e R s m args below meth c g A H0 cells slots Q H locs ls C hW hS hL hret
  exact lv_icmp_lt C.1 C.2.1 hd ht (fun q => kt ((iI_lt hx hy).mp q) p l e R s m args below meth c g A H0 cells slots Q H locs ls C hW hS hL hret) (fun q => kf (fun z => q ((iI_lt hx hy).mpr z)) p l e R s m args below meth c g A H0 cells slots Q H locs ls C hW hS hL hret)
theorem ev_if_ge {x : Int} {off : Int} {tgt : Nat} (hd : decode cc pc = .ok (.ifCond .ge off, 3)) (ht : (pc : Int) + off = (tgt : Int)) (hx : inR x) (kt : 0 ≤ x → Ev own cc nL fr lo Φ tgt ab st σ) (kf : ¬ (0 ≤ x) → Ev own cc nL fr lo Φ (pc + 3) ab st σ) : Ev own cc nL fr lo Φ pc ab (.int (iI x) :: st) σ := by
  intro p l e R s m args below meth c g A H0 cells slots Q H locs ls C hW hS hL hret
  exact lv_if_ge C.1 C.2.1 hd ht (fun q => kt ((iI_le inR0 hx).mp q) p l e R s m args below meth c g A H0 cells slots Q H locs ls C hW hS hL hret) (fun q => kf (fun z => q ((iI_le inR0 hx).mpr z)) p l e R s m args below meth c g A H0 cells slots Q H locs ls C hW hS hL hret)
theorem ev_icmp_ge {x y : Int} {off : Int} {tgt : Nat} (hd : decode cc pc = .ok (.if_icmp .ge off, 3)) (ht : (pc : Int) + off = (tgt : Int)) (hx : inR x) (hy : inR y) (kt : y ≤ x → Ev own cc nL fr lo Φ tgt ab st σ) (kf : ¬ (y ≤ x) → Ev own cc nL fr lo Φ (pc + 3) ab st σ) : Ev own cc nL fr lo Φ pc ab (.int (iI y) :: .int (iI x) :: st) σ := by
  intro p l e R s m args below meth c g A H0 cells slots Q H locs ls C hW hS hL hret
  exact lv_icmp_ge C.1 C.2.1 hd ht (fun q => kt ((iI_le hy hx).mp q) p l e R s m args below meth c g A H0 cells slots Q H locs ls C hW hS hL hret) (fun q => kf (fun z => q ((iI_le hy hx).mpr z)) p l e R s m args below meth c g A H0 cells slots Q H locs ls C hW hS hL hret)
theorem ev_if_gt {x : Int} {off : Int} {tgt : Nat} (hd : decode cc pc = .ok (.ifCond .gt off, 3)) (ht : (pc : Int) + off = (tgt : Int)) (hx : inR x) (kt : 0 < x → Ev own cc nL fr lo Φ tgt ab st σ) (kf : ¬ (0 < x) → Ev own cc nL fr lo Φ (pc + 3) ab st σ) : Ev own cc nL fr lo Φ pc ab (.int (iI x) :: st) σ := by
  intro p l e R s m args below meth c g A H0 cells slots Q H locs ls C hW hS hL hret
  exact lv_if_gt C.1 C.2.1 hd ht (fun q => kt ((iI_lt inR0 hx).mp q) p l e R s m args below meth c g A H0 cells slots Q H locs ls C hW hS hL hret) (fun q => kf (fun z => q ((iI_lt inR0 hx).mpr z)) p l e R s m args below meth c g A H0 cells slots Q H locs ls C hW hS hL hret)
theorem ev_icmp_gt {x y : Int} {off : Int} {tgt : Nat} (hd : decode cc pc = .ok (.if_icmp .gt off, 3)) (ht : (pc : Int) + off = (tgt : Int)) (hx : inR x) (hy : inR y) (kt : y < x → Ev own cc nL fr lo Φ tgt ab st σ) (kf : ¬ (y < x) → Ev own cc nL fr lo Φ (pc + 3) ab st σ) : Ev own cc nL fr lo Φ pc ab (.int (iI y) :: .int (iI x) :: st) σ := by
  intro p l e R s m args below meth c g A H0 cells slots Q H locs ls C hW hS hL hret
  exact lv_icmp_gt C.1 C.2.1 hd ht (fun q => kt ((iI_lt hy hx).mp q) p l e R s m args below meth c g A H0 cells slots Q H locs ls C hW hS hL hret) (fun q => kf (fun z => q ((iI_lt hy hx).mpr z)) p l e R s m args below meth c g A H0 cells slots Q H locs ls C hW hS hL hret)
theorem ev_if_le {x : Int} {off : Int} {tgt : Nat} (hd : decode cc pc = .ok (.ifCond .le off, 3)) (ht : (pc : Int) + off = (tgt : Int)) (hx : inR x) (kt : x ≤ 0 → Ev own cc nL fr lo Φ tgt ab st σ) (kf : ¬ (x ≤ 0) → Ev own cc nL fr lo Φ (pc + 3) ab st σ) : Ev own cc nL fr lo Φ pc ab (.int (iI x) :: st) σ := by
  intro p l e R s m args below meth c g A H0 cells slots Q H locs ls C hW hS hL hret
  exact lv_if_le C.1 C.2.1 hd ht (fun q => kt ((iI_le hx inR0).mp q) p l e R s m args below meth c g A H0 cells slots Q H locs ls C hW hS hL hret) (fun q => kf (fun z => q ((iI_le hx inR0).mpr z)) p l e R s m args below meth c g A H0 cells slots Q H locs ls C hW hS hL hret)
theorem ev_icmp_le {x y : Int} {off : Int} {tgt : Nat} (hd : decode cc pc = .ok (.if_icmp .le off, 3)) (ht : (pc : Int) + off = (tgt : Int)) (hx : inR x) (hy : inR y) (kt : x ≤ y → Ev own cc nL fr lo Φ tgt ab st σ) (kf : ¬ (x ≤ y) → Ev own cc nL fr lo Φ (pc + 3) ab st σ) : Ev own cc nL fr lo Φ pc ab (.int (iI y) :: .int (iI x) :: st) σ := by
  intro p l e R s m args below meth c g A H0 cells slots Q H locs ls C hW hS hL hret
  exact lv_icmp_le C.1 C.2.1 hd ht (fun q => kt ((iI_le hx hy).mp q) p l e R s m args below meth c g A H0 cells slots Q H locs ls C hW hS hL hret) (fun q => kf (fun z => q ((iI_le hx hy).mpr z)) p l e R s m args below meth c g A H0 cells slots Q H locs ls C hW hS hL hret)
end EV
