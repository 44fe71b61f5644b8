/-! the world of the class's own cells alone, 0..78, before the reference is made: what 'begin' needs, as in 10-22, over 79 cells -/
def zshapes : List (Nat ⊕ (Nat × Nat)) := shapes.take 79
abbrev zNC : Nat := 79
def zent (g : Geo) (σ : Mem) (c : Nat) : va_E := match zshapes[c]? with
  | some (.inl ci) => .inr (ci, flds g σ c ci)
  | some (.inr (t, n)) => .inl (acls g t, n, acon g σ c t)
  | none => .inr (0, [])
def zcellsG (g : Geo) (σ : Mem) : va_W := (List.range zNC).map (fun c => (g.1 c, zent g σ c))
def zWd (g : Geo) (σ : Mem) (H : Heap) : Prop := va_P g.2.1 vwCl (zcellsG g σ) H ∧ va_D (fun _ => True) (zcellsG g σ) ∧ Rng σ
def zgA (g : Geo) : Nat → Prop := fun q => ∃ k, k < zNC ∧ q = g.1 k
theorem zcellsG_at (g : Geo) (σ : Mem) {c : Nat} (h : c < zNC) : (zcellsG g σ)[c]? = some (g.1 c, zent g σ c) := by
  simp [zcellsG, List.getElem?_map, List.getElem?_range h]
theorem zcellsG_inv (g : Geo) (σ : Mem) {c : Nat} {q : Nat × va_E} (h : (zcellsG g σ)[c]? = some q) : c < zNC ∧ q = (g.1 c, zent g σ c) := by
  have hl : c < zNC := by
    have := (List.getElem?_eq_some_iff.mp h).1
    simpa [zcellsG] using this
  rw [zcellsG_at g σ hl] at h
  exact ⟨hl, (Option.some.inj h).symm⟩
theorem zshapes_lt {c : Nat} {x : Nat ⊕ (Nat × Nat)} (h : zshapes[c]? = some x) : c < zNC := (List.getElem?_eq_some_iff.mp h).1
theorem zcellsG_set {g : Geo} {σ σ' : Mem} {c : Nat} {e : va_E} (hc : c < zNC) (he : zent g σ' c = e) (ho : ∀ c', c' ≠ c → zent g σ' c' = zent g σ c') : (zcellsG g σ).set c (g.1 c, e) = zcellsG g σ' := by
  apply List.ext_getElem?
  intro i
  by_cases hi : i < zNC
  · rw [zcellsG_at g σ' hi]
    by_cases hic : i = c
    · subst hic
      rw [List.getElem?_set_self (by simpa [zcellsG] using hi), he]
    · rw [List.getElem?_set_ne (Ne.symm hic), zcellsG_at g σ hi, ho i hic]
  · rw [List.getElem?_eq_none (by simpa [zcellsG] using hi), List.getElem?_eq_none (by simpa [zcellsG] using hi)]
theorem zcellsG_D {g : Geo} {σ : Mem} {A : Nat → Prop} (h : va_D (fun _ => True) (zcellsG g σ)) (hA : ∀ k, k < zNC → A (g.1 k)) : va_D A (zcellsG g σ) := by
  refine h.weaken (fun k q hq _ => ?_)
  obtain ⟨h1, rfl⟩ := zcellsG_inv g σ hq
  exact hA k h1
theorem zcellsG_D' {g : Geo} {σ : Mem} {A : Nat → Prop} (h : va_D A (zcellsG g σ)) : va_D (fun _ => True) (zcellsG g σ) := h.weaken (fun _ _ _ _ => trivial)
theorem zent_o {g : Geo} {σ : Mem} {c ci : Nat} (h : zshapes[c]? = some (.inl ci)) : zent g σ c = .inr (ci, flds g σ c ci) := by simp [zent, h]
theorem zent_a {g : Geo} {σ : Mem} {c t n : Nat} (h : zshapes[c]? = some (.inr (t, n))) (ht : t ≠ 3) : zent g σ c = .inl (acls g t, n, .inl (fun j => iI (σ.1 c j))) := by simp [zent, h, acon, ht]
theorem zent_ne {g : Geo} {σ : Mem} {c c' : Nat} {kz z : Int} (h : c' ≠ c) : zent g (wr σ c kz z) c' = zent g σ c' := by
  unfold zent
  split
  · congr 2
    unfold flds
    exact List.map_congr_left (fun k _ => by rw [fval_ne h])
  · congr 3
    unfold acon
    split
    · rfl
    · congr 1
      funext j
      rw [wr_nec σ h]
  · rfl
def zXA (_ : Geo) (_ : Nat → Prop) (_ : State) (_ : Heap) : Prop := True
theorem zXA.to {g : Geo} {A B : Nat → Prop} {s U : State} {H0 H : Heap} {locs : List Loc} (_ : zXA g A s H0) (_ : s.WarmedH U.vm) (_ : va_S A H0 H locs) (_ : ∀ q, B q → A q) : zXA g B U H := trivial
theorem zXA.blind {g : Geo} {A : Nat → Prop} {U U' : State} {H : Heap} (_ : zXA g A U H) (_ : U'.vm = U.vm) : zXA g A U' H := trivial
def zCx (own : String) (cc : ByteArray) (nL fr lo : Nat) (p : Program) (R : Room) (s : State) (m : MethodId) (args : Array Value) (c : Code) (g : Geo) (A : Nat → Prop) (H0 : Heap) (cells slots : Nat) : Prop :=
  p.tables.exec = Jvm.exec ∧ c.code = cc ∧ c.maxLocals = nL ∧ s.vm.findClass own = some m.cls ∧ (∀ w ∈ G, w.before args s = true) ∧ (va_K g.2.1 vwCl (tysG g) s ∧ zXA g A s H0) ∧ (∀ k, k < zNC → A (g.1 k)) ∧ fr ≤ R.frames ∧ lo ≤ R.locals ∧ cells ≤ R.cells ∧ slots ≤ R.slots
def zEv (own : String) (cc : ByteArray) (nL fr lo : Nat) (Φ : Option Value → Mem → Prop) (pc : Nat) (ab : List (Option Value)) (st : List Value) (σ : Mem) : Prop :=
  ∀ (p : Program) (l : Launch) (e : Env) (R : Room) (s : State) (m : MethodId) (args : Array Value) (below : List Frame) (meth : Method) (c : Code) (g : Geo) (A : Nat → Prop) (H0 : Heap) (cells slots : Nat) (Q : State → Prop) (H : Heap) (locs : List Loc) (ls : Array Slot),
    zCx own cc nL fr lo p R s m args c g A H0 cells slots → zWd g σ H → va_S A H0 H locs → LR g ls nL ab →
    (∀ (v : Option Value) (σ' : Mem) (pc' : Nat) (H' : Heap) (locs' : List Loc) (ls' : Array Slot), Φ v σ' → isRet cc pc' v → zWd g σ' H' → va_S A H0 H' locs' → W p l e R s m args below meth c H' locs' cells slots Q (F0 m pc' ls' ((v.map (tr g)).toList))) →
    W p l e R s m args below meth c H locs cells slots Q (F0 m pc ls (st.map (tr g)))
section ZEV
variable {own : String} {cc : ByteArray} {nL fr lo : Nat} {Φ : Option Value → Mem → Prop} {pc : Nat} {ab : List (Option Value)} {st : List Value} {σ : Mem}
theorem zev_w (h : Rng σ → zEv own cc nL fr lo Φ pc ab st σ) : zEv own cc nL fr lo Φ pc ab st σ := by
  intro p l e R s m args below meth c g A H0 cells slots Q H locs ls C hW
  exact h hW.2.2 p l e R s m args below meth c g A H0 cells slots Q H locs ls C hW
theorem zev_ret (v : Option Value) (hv : Φ v σ) (hr : isRet cc pc v) : zEv own cc nL fr lo Φ pc ab v.toList σ := by
  intro p l e R s m args below meth c g A H0 cells slots Q H locs ls C hW hS hL hret
  have := hret v σ pc H locs ls hv hr hW hS
  cases v with
  | none => exact this
  | some w => exact this
theorem zev_return (hd : decode cc pc = .ok (.return_, 1)) (hv : Φ none σ) : zEv own cc nL fr lo Φ pc ab [] σ := zev_ret none hv hd
theorem zev_iconst {n : Int} (hd : decode cc pc = .ok (.iconst n, 1)) (k : zEv own cc nL fr lo Φ (pc + 1) ab (.int (iI n) :: st) σ) : zEv own cc nL fr lo Φ pc ab st σ := by
  intro p l e R s m args below meth c g A H0 cells slots Q H locs ls C hW hS hL hret
  exact lv_iconst C.1 C.2.1 hd rfl (k p l e R s m args below meth c g A H0 cells slots Q H locs ls C hW hS hL hret)
theorem zev_iload_n {i : Fin 4} {x : Int32} (hd : decode cc pc = .ok (.iload_n i, 1)) (hl : ab[(i : Nat)]? = some (some (.int x))) (k : zEv own cc nL fr lo Φ (pc + 1) ab (.int x :: st) σ) : zEv own cc nL fr lo Φ pc ab st σ := by
  intro p l e R s m args below meth c g A H0 cells slots Q H locs ls C hW hS hL hret
  exact lv_iload_n C.1 C.2.1 hd rfl (hL.2.2 _ _ hl) (k p l e R s m args below meth c g A H0 cells slots Q H locs ls C hW hS hL hret)
theorem zev_aload_n {i : Fin 4} {x : Nat} (hd : decode cc pc = .ok (.aload_n i, 1)) (hl : ab[(i : Nat)]? = some (some (.ref x))) (k : zEv own cc nL fr lo Φ (pc + 1) ab (.ref x :: st) σ) : zEv own cc nL fr lo Φ pc ab st σ := by
  intro p l e R s m args below meth c g A H0 cells slots Q H locs ls C hW hS hL hret
  exact lv_aload_n C.1 C.2.1 hd rfl (hL.2.2 _ _ hl) (k p l e R s m args below meth c g A H0 cells slots Q H locs ls C hW hS hL hret)
theorem zev_istore_n {i : Fin 4} {x : Int32} (hd : decode cc pc = .ok (.istore_n i, 1)) (hn : nolong ab (i : Nat) = true) (hi : (i : Nat) < nL) {ab' : List (Option Value)} (ha : ab.set (i : Nat) (some (.int x)) = ab') (k : zEv own cc nL fr lo Φ (pc + 1) ab' st σ) : zEv own cc nL fr lo Φ pc ab (.int x :: st) σ := by
  intro p l e R s m args below meth c g A H0 cells slots Q H locs ls C hW hS hL hret
  refine lv_istore_n C.1 C.2.1 hd rfl hL.has hi rfl (fun ls' h' => ?_)
  subst ha
  exact k p l e R s m args below meth c g A H0 cells slots Q H locs ls' C hW hS (LR.store (v := .int x) hn h') hret
theorem zev_iinc {i : Nat} {n : Int} {z : Int} (hd : decode cc pc = .ok (.iinc i n, 3)) (hl : ab[i]? = some (some (.int (iI z)))) (hn : nolong ab i = true) (hi : i < nL) {ab' : List (Option Value)} (ha : ab.set i (some (.int (iI (z + n)))) = ab') (k : zEv own cc nL fr lo Φ (pc + 3) ab' st σ) : zEv own cc nL fr lo Φ pc ab st σ := by
  intro p l e R s m args below meth c g A H0 cells slots Q H locs ls C hW hS hL hret
  obtain ⟨j, hj⟩ := List.getElem?_of_mem (lvl_mem (g := g) hl)
  refine lv_iinc C.1 C.2.1 hd hL.has hj (v := iI (z + n)) (iI_add z n) hi rfl (fun ls' h' => ?_)
  subst ha
  exact k p l e R s m args below meth c g A H0 cells slots Q H locs ls' C hW hS (LR.store (v := .int (iI (z + n))) hn h') hret
theorem zev_isub {x y : Int} (hd : decode cc pc = .ok (.isub, 1)) (k : zEv own cc nL fr lo Φ (pc + 1) ab (.int (iI (x - y)) :: st) σ) : zEv own cc nL fr lo Φ pc ab (.int (iI y) :: .int (iI x) :: st) σ := by
  intro p l e R s m args below meth c g A H0 cells slots Q H locs ls C hW hS hL hret
  refine lv_isub C.1 C.2.1 hd ?_
  rw [iI_sub]
  exact k p l e R s m args below meth c g A H0 cells slots Q H locs ls C hW hS hL hret
theorem zev_ishl {x y : Int} (hd : decode cc pc = .ok (.ishl, 1)) (k : zEv own cc nL fr lo Φ (pc + 1) ab (.int (iI (bshl x y)) :: st) σ) : zEv own cc nL fr lo Φ pc ab (.int (iI y) :: .int (iI x) :: st) σ := by
  intro p l e R s m args below meth c g A H0 cells slots Q H locs ls C hW hS hL hret
  refine lv_ishl C.1 C.2.1 hd ?_
  rw [← iI_of (iI x <<< (iI y &&& 31))]
  exact k p l e R s m args below meth c g A H0 cells slots Q H locs ls C hW hS hL hret
theorem zev_goto {off : Int} {tgt : Nat} (hd : decode cc pc = .ok (.goto off, 3)) (ht : (pc : Int) + off = (tgt : Int)) (k : zEv own cc nL fr lo Φ tgt ab st σ) : zEv own cc nL fr lo Φ pc ab st σ := by
  intro p l e R s m args below meth c g A H0 cells slots Q H locs ls C hW hS hL hret
  exact lv_goto C.1 C.2.1 hd ht (k p l e R s m args below meth c g A H0 cells slots Q H locs ls C hW hS hL hret)
theorem zev_icmp_ge {x y : Int} {off : Int} {tgt : Nat} (hd : decode cc pc = .ok (.if_icmp .ge off, 3)) (ht : (pc : Int) + off = (tgt : Int)) (hx : inR x) (hy : inR y) (kt : y ≤ x → zEv own cc nL fr lo Φ tgt ab st σ) (kf : ¬ (y ≤ x) → zEv own cc nL fr lo Φ (pc + 3) ab st σ) : zEv own cc nL fr lo Φ pc ab (.int (iI y) :: .int (iI x) :: st) σ := by
  intro p l e R s m args below meth c g A H0 cells slots Q H locs ls C hW hS hL hret
  exact lv_icmp_ge C.1 C.2.1 hd ht (fun q => kt ((iI_le hy hx).mp q) p l e R s m args below meth c g A H0 cells slots Q H locs ls C hW hS hL hret) (fun q => kf (fun z => q ((iI_le hy hx).mpr z)) p l e R s m args below meth c g A H0 cells slots Q H locs ls C hW hS hL hret)
theorem zev_σ {own : String} {cc : ByteArray} {nL fr lo : Nat} {Φ : Option Value → Mem → Prop} {pc : Nat} {ab : List (Option Value)} {st : List Value} {σ σ' : Mem} (h : σ = σ') (k : zEv own cc nL fr lo Φ pc ab st σ') : zEv own cc nL fr lo Φ pc ab st σ := h ▸ k
theorem zev_get {idx ci k c : Nat} {v : Value} (hd : decode cc pc = .ok (.getfield idx, 3)) (hF : FL own idx ci k) (hsh : zshapes[c]? = some (.inl ci)) (hv : fval σ c ci k = v) (kk : zEv own cc nL fr lo Φ (pc + 3) ab (v :: st) σ) : zEv own cc nL fr lo Φ pc ab (.ref c :: st) σ := by
  intro p l e R s m args below meth c0 g A H0 cells slots Q H locs ls zCx hW hS hL hret
  obtain ⟨C, T, N, ty, h1, h2, h3, h4, h5, h6, h7⟩ := hF
  have he := zcellsG_at g σ (zshapes_lt hsh)
  rw [zent_o hsh] at he
  subst hv
  exact va_get zCx.1 zCx.2.1 zCx.2.2.2.2.1 h3 zCx.2.2.2.1 zCx.2.2.2.2.2.1.1 hW.1 c he h1 k h6 (zCx.2.2.2.2.1 _ h7) (fun _ h => h) (flds_at (by omega)) hd (kk p l e R s m args below meth c0 g A H0 cells slots Q H locs ls zCx hW hS hL hret)
theorem zev_getI {idx ci k c : Nat} {kz : Int} (hd : decode cc pc = .ok (.getfield idx, 3)) (hF : FL own idx ci k) (hsh : zshapes[c]? = some (.inl ci)) (hf : (fkd ci k).1 = 0) (hk : (k : Int) = kz) (kk : zEv own cc nL fr lo Φ (pc + 3) ab (.int (iI (σ.1 c kz)) :: st) σ) : zEv own cc nL fr lo Φ pc ab (.ref c :: st) σ := by
  subst hk
  exact zev_get hd hF hsh (fval_0 hf) kk
theorem zev_getR {idx ci k c : Nat} {r : Nat} (hd : decode cc pc = .ok (.getfield idx, 3)) (hF : FL own idx ci k) (hsh : zshapes[c]? = some (.inl ci)) (hf : (fkd ci k).1 = 2) (hr : c + (fkd ci k).2 = r) (kk : zEv own cc nL fr lo Φ (pc + 3) ab (.ref r :: st) σ) : zEv own cc nL fr lo Φ pc ab (.ref c :: st) σ := by
  subst hr
  exact zev_get hd hF hsh (fval_2 hf) kk
theorem zev_getQ {idx ci k c : Nat} {r : Nat} (hd : decode cc pc = .ok (.getfield idx, 3)) (hF : FL own idx ci k) (hsh : zshapes[c]? = some (.inl ci)) (hf : (fkd ci k).1 = 3) (hr : (σ.1 c k).toNat = r) (kk : zEv own cc nL fr lo Φ (pc + 3) ab (.ref r :: st) σ) : zEv own cc nL fr lo Φ pc ab (.ref c :: st) σ := by
  subst hr
  exact zev_get hd hF hsh (fval_3 hf) kk
theorem zev_put {idx ci k c : Nat} {t : FieldType} {v : Value} {σ' : Mem} (hd : decode cc pc = .ok (.putfield idx, 3)) (hF : FP own idx ci k t) (hsh : zshapes[c]? = some (.inl ci)) (hn : ∀ g, narrow t (tr g v) = tr g v) (hfit : ∀ g, fits t (tr g v) = true)
    (hR : Rng σ → Rng σ') (he : fval σ' c ci k = v) (ho : ∀ j, j ≠ k → fval σ' c ci j = fval σ c ci j) (hx : ∀ g c', c' ≠ c → zent g σ' c' = zent g σ c')
    (kk : zEv own cc nL fr lo Φ (pc + 3) ab st σ') : zEv own cc nL fr lo Φ pc ab (v :: .ref c :: st) σ := by
  intro p l e R s m args below meth c0 g A H0 cells slots Q H locs ls zCx hW hS hL hret
  obtain ⟨C, T, N, ty, h1, h2, h3, h4, h5, h6, h7, h8, h9⟩ := hF
  have hat := zcellsG_at g σ (zshapes_lt hsh)
  rw [zent_o hsh] at hat
  have hty : parseFieldDescriptor (T k).2.2.1 = some t := by rw [h4 k h6, h9]
  refine va_put zCx.1 zCx.2.1 zCx.2.2.2.2.1 h3 ty h4 h5 zCx.2.2.2.1 zCx.2.2.2.2.2.1.1 hW.1 (zcellsG_D hW.2.1 zCx.2.2.2.2.2.2.1) hS c hat h1 k h6 (zCx.2.2.2.2.1 _ h7) (fun _ h => h) h8 hty (hn g) (hfit g) (by rw [flds_len]; omega) hd (fun H1 locs1 hP hD hS1 => ?_)
  have hq : (zcellsG g σ).set c (g.1 c, .inr (ci, (flds g σ c ci).set k (tr g v))) = zcellsG g σ' := by
    refine zcellsG_set (zshapes_lt hsh) ?_ (hx g)
    rw [zent_o hsh, flds_set (σ' := σ') (by omega) (by rw [he]) ho]
  rw [hq] at hP hD
  exact kk p l e R s m args below meth c0 g A H0 cells slots Q H1 locs1 ls zCx ⟨hP, zcellsG_D' hD, hR hW.2.2⟩ hS1 hL hret
theorem zev_putI {idx ci k c : Nat} {z kz : Int} (hd : decode cc pc = .ok (.putfield idx, 3)) (hF : FP own idx ci k .int) (hsh : zshapes[c]? = some (.inl ci)) (hf : (fkd ci k).1 = 0) (hk : (k : Int) = kz) (hz : inR z) (kk : zEv own cc nL fr lo Φ (pc + 3) ab st (wr σ c kz z)) : zEv own cc nL fr lo Φ pc ab (.int (iI z) :: .ref c :: st) σ := by
  subst hk
  refine zev_put hd hF hsh (fun _ => rfl) (fun _ => rfl) (fun h => wr_R h hz) ?_ (fun j hj => fval_nek hj) (fun g c' h => zent_ne h) kk
  rw [fval_0 hf, wr_eq]
theorem zent_upd {g : Geo} {σ : Mem} {c t n : Nat} {z v : Int} (hsh : zshapes[c]? = some (.inr (t, n))) (ht : t ≠ 3) (h0 : 0 ≤ z) : zent g (wr σ c z v) c = .inl (acls g t, n, .inl (upd (fun j => iI (σ.1 c j)) z.toNat (iI v))) := by
  rw [zent_a hsh ht]
  congr 3
  congr 1
  funext j
  by_cases hj : j = z.toNat
  · subst hj
    rw [pk_us, Int.toNat_of_nonneg h0, wr_eq]
  · rw [pk_un hj, wr_nek σ (by omega)]
theorem zev_iastore {c n : Nat} {z v : Int} (hd : decode cc pc = .ok (.iastore, 1)) (hsh : zshapes[c]? = some (.inr (0, n))) (h0 : 0 ≤ z) (h1 : z < n) (hn : n ≤ 4096) (hv : inR v) (kk : zEv own cc nL fr lo Φ (pc + 1) ab st (wr σ c z v)) : zEv own cc nL fr lo Φ pc ab (.int (iI v) :: .int (iI z) :: .ref c :: st) σ := by
  intro p l e R s m args below meth c0 g A H0 cells slots Q H locs ls zCx hW hS hL hret
  have hat := zcellsG_at g σ (zshapes_lt hsh)
  rw [zent_a hsh (by decide)] at hat
  refine va_iast zCx.1 zCx.2.1 zCx.2.2.2.2.2.1.1 hW.1 (zcellsG_D hW.2.1 zCx.2.2.2.2.2.2.1) hS c 0 hat (tysG_at g rfl) (iI_vin h0 h1 (by omega)) hd (fun H1 locs1 hP hD hS1 => ?_)
  rw [iI_clamp h0 (by omega), zcellsG_set (σ' := wr σ c z v) (zshapes_lt hsh) (zent_upd hsh (by decide) h0) (fun c' h => zent_ne h)] at hP hD
  exact kk p l e R s m args below meth c0 g A H0 cells slots Q H1 locs1 ls zCx ⟨hP, zcellsG_D' hD, wr_R hW.2.2 hv⟩ hS1 hL hret
theorem zev_alen {c n : Nat} (hd : decode cc pc = .ok (.arraylength, 1)) (hsh : zshapes[c]? = some (.inr (0, n))) (kk : zEv own cc nL fr lo Φ (pc + 1) ab (.int (iI n) :: st) σ) : zEv own cc nL fr lo Φ pc ab (.ref c :: st) σ := by
  intro p l e R s m args below meth c0 g A H0 cells slots Q H locs ls zCx hW hS hL hret
  have hat := zcellsG_at g σ (zshapes_lt hsh)
  rw [zent_a hsh (by decide)] at hat
  exact va_alen zCx.1 zCx.2.1 zCx.2.2.2.2.2.1.1 hW.1 c 0 hat (tysG_at g rfl) (v := iI n) (iI_nat n).symm hd (kk p l e R s m args below meth c0 g A H0 cells slots Q H locs ls zCx hW hS hL hret)
theorem zent_eq {g : Geo} {σ σ' : Mem} {c : Nat} (h : σ'.1 c = σ.1 c) (h2 : σ'.2 = σ.2) : zent g σ' c = zent g σ c := by
  simp only [zent, flds, fval, acon, h, h2]
theorem zev_copy {idx c0 c1 n0 n1 : Nat} {sp dp n : Int} (hd : decode cc pc = .ok (.invokestatic idx, 3)) (hK : KA own idx) (hs0 : zshapes[c0]? = some (.inr (0, n0))) (hs1 : zshapes[c1]? = some (.inr (0, n1))) (h1 : 0 ≤ sp) (h2 : 0 ≤ dp) (h3 : 0 ≤ n) (h4 : sp + n ≤ n0) (h5 : dp + n ≤ n1) (hn0 : n0 ≤ 4096) (hn1 : n1 ≤ 4096) (hfr : 1 ≤ fr) (hlo : 26 ≤ lo) (hcat : (st.map fun v => v.category).sum ≤ 8) (kk : zEv own cc nL fr lo Φ (pc + 3) ab st (cpyM σ c0 c1 sp dp n)) : zEv own cc nL fr lo Φ pc ab (.int (iI n) :: .int (iI dp) :: .ref c1 :: .int (iI sp) :: .ref c0 :: st) σ := by
  intro p l e R s m args below meth c g A H0 cells slots Q H locs ls C hW hS hL hret
  obtain ⟨k1, k2, k3, k4⟩ := hK
  have hts := C.2.2.2.2.1
  have hat0 := zcellsG_at g σ (zshapes_lt hs0)
  rw [zent_a hs0 (by decide)] at hat0
  have hat1 := zcellsG_at g σ (zshapes_lt hs1)
  rw [zent_a hs1 (by decide)] at hat1
  have nn : ∀ z : Int, 0 ≤ z → z ≤ 8192 → ¬ iI z < 0 := fun z hz hz2 h => by
    have := (iI_lt (a := z) (b := 0) ⟨by omega, by omega⟩ inR0).mp h
    omega
  refine va_copyi C.1 C.2.1 (C.2.2.1.trans hL.1.symm) C.2.2.2.1 (hts _ k1) (hts _ k2) (hts _ k3) (hts _ k4) C.2.2.2.2.2.1.1 hW.1 (zcellsG_D hW.2.1 C.2.2.2.2.2.2.1) hS c0 c1 0 0 hat0 hat1 (tysG_at g rfl) (tysG_at g rfl) rfl (nn sp h1 (by omega)) (nn dp h2 (by omega)) (nn n h3 (by omega)) (by rw [iI_clamp h1 (by omega), iI_clamp h3 (by omega)]; omega) (by rw [iI_clamp h2 (by omega), iI_clamp h3 (by omega)]; omega) (fun _ _ => rfl) (Nat.le_trans hfr C.2.2.2.2.2.2.2.1) ?_ hd (fun H1 locs1 hP hD hS1 => ?_)
  · have h1 := C.2.2.2.2.2.2.2.2.1
    have h6 : nativeFrameWords "java/lang/System" "arraycopy" 5 = 7 := by decide +kernel
    show ((st.map (tr g)).map fun v => v.category).sum + _ ≤ _
    rw [tr_cats, h6]; omega
  · rw [iI_clamp h1 (by omega), iI_clamp h2 (by omega), iI_clamp h3 (by omega)] at hP hD
    have hR' : Rng (cpyM σ c0 c1 sp dp n) := by
      refine ⟨fun c' k' => ?_, hW.2.2.2⟩
      rw [cpyM_at]
      split
      · exact hW.2.2.1 _ _
      · exact hW.2.2.1 _ _
    have hq : (zcellsG g σ).set c1 (g.1 c1, .inl (acls g 0, n1, .inl (va_cpy (fun j => iI (σ.1 c0 j)) (fun j => iI (σ.1 c1 j)) sp.toNat dp.toNat n.toNat))) = zcellsG g (cpyM σ c0 c1 sp dp n) := by
      refine zcellsG_set (zshapes_lt hs1) ?_ (fun c' hc' => zent_eq (funext fun k' => ?_) rfl)
      · rw [zent_a hs1 (by decide)]
        congr 3
        congr 1
        funext j
        unfold va_cpy
        rw [cpyM_at]
        by_cases hj : dp.toNat ≤ j ∧ j < dp.toNat + n.toNat
        · rw [if_pos ⟨rfl, by omega, by omega⟩, if_pos hj]
          show _ = iI (σ.1 c0 ((sp.toNat + (j - dp.toNat) : Nat) : Int))
          rw [show ((sp.toNat + (j - dp.toNat) : Nat) : Int) = sp + ((j : Int) - dp) by omega]
        · rw [if_neg (fun q => hj ⟨by omega, by omega⟩), if_neg hj]
      · rw [cpyM_at, if_neg (fun q => hc' q.1)]
    rw [hq] at hP hD
    exact kk p l e R s m args below meth c g A H0 cells slots Q H1 locs1 ls C ⟨hP, zcellsG_D' hD, hR'⟩ hS1 hL hret
end ZEV
def zQcG (g : Geo) (Φ : Option Value → Mem → Prop) : Array Value → State → Outcome → State → Prop := fun _ st oc t => (∃ (v : Option Value) (σ' : Mem), oc = .returned (v.map (tr g)) ∧ Φ v σ' ∧ zWd g σ' t.heap) ∧ va_F (zgA g) st t
def zBpG (g : Geo) (σ : Mem) : State → Prop := fun U => zWd g σ U.heap ∧ va_K g.2.1 vwCl (tysG g) U ∧ zXA g (zgA g) U U.heap
def zCon (y : MethodName) (cc : ByteArray) (nL : Nat) (ret : Option FieldType) (fr lo : Nat) (av : List Value) (σ : Mem) (Φ : Option Value → Mem → Prop) : Prop :=
  ∀ (l : Launch) (g : Geo), Met l y (Cond.code y cc nL ret :: G) { frames := fr, cells := 0, slots := 0, locals := lo } (va_Pc (av.map (tr g)) (zBpG g σ)) (zQcG g Φ) 0 0 (zgA g)
theorem zcon_of {y : MethodName} {cc : ByteArray} {nL : Nat} {ret : Option FieldType} {fr lo : Nat} {av : List Value} {σ : Mem} {Φ : Option Value → Mem → Prop} {own : String} (hy : plainName y.cls = true) (ho : y.cls = own) (hlen : (entA av).length ≤ nL) (hret : ∀ v σ', Φ v σ' → okRet ret v)
    (h : zEv own cc nL fr lo Φ 0 (entL av nL) [] σ) : zCon y cc nL ret fr lo av σ Φ := by
  intro l g
  refine Met.ofW (cc := cc) (maxL := nL) (ret := ret) hy rfl ?_
  intro p e s m args below meth c s₁ B hml hP
  obtain ⟨rfl, hW, hK, hXA⟩ := hP
  have hts : ∀ w ∈ (Cond.code y cc nL ret :: G), w.before (av.map (tr g)).toArray s = true := atoms_spec (ws := Cond.code y cc nL ret :: G) B.pre
  have hown : s.vm.findClass own = some m.cls := by rw [← ho]; exact findClass_of_methodNamed B.named
  rw [lg_entry_eq]
  have hlen' : (lg_sl (av.map (tr g))).length ≤ nL := by rw [lg_sl_len]; exact hlen
  refine h p l e _ s m _ below meth c g (zgA g) s.heap 0 0 _ s.heap [] _ ⟨B.exec, B.bytes, hml, hown, fun w hw => hts w (List.mem_cons_of_mem _ hw), ⟨hK, hXA⟩, fun k hk => ⟨k, hk, rfl⟩, Nat.le_refl _, Nat.le_refl _, Nat.zero_le _, Nat.zero_le _⟩ hW va_S.rf (entL_LR hlen') ?_
  intro v σ' pc' H' locs' ls' hΦ hr hW' hS'
  have hq : ∀ t : State, t.heap = H' → s.WarmedH t.vm → zQcG g Φ (av.map (tr g)).toArray s (.returned (v.map (tr g))) t := fun t ht _ => ⟨⟨v, σ', rfl, hΦ, by rw [ht]; exact hW'⟩, hS'.F ht⟩
  have ho2 := hret v σ' hΦ
  match v, hr, hq, ho2 with
  | none, hr, hq, ho2 => exact W.vret B.exec B.bytes (B.returns.trans ho2) hq hS'.2.2 hr
  | some (.int x), hr, hq, ho2 =>
    obtain ⟨ty, h1, h2⟩ := ho2
    exact W.zret B.exec B.bytes (B.returns.trans h1) h2 hq hS'.2.2 hr
  | some (.long x), hr, hq, ho2 => exact W.lret B.exec B.bytes (B.returns.trans ho2) hq hS'.2.2 hr
theorem zBpG_blind (g : Geo) (σ : Mem) (av : List Value) : FrameBlind (va_Pc av (zBpG g σ)) := by
  intro a U fr mk h
  exact ⟨h.1, h.2.1, va_K.moved (u := U) (U := U.calling fr mk a) (Vm.Alike.refl U.vm) h.2.2.1, zXA.blind (U := U) (U' := U.calling fr mk a) h.2.2.2 rfl⟩
section ZCALL
variable {own : String} {cc : ByteArray} {nL fr lo : Nat} {Φ : Option Value → Mem → Prop} {pc : Nat} {ab : List (Option Value)} {st rest : List Value} {σ : Mem}
variable {p : Program} {l : Launch} {e : Env} {R : Room} {s : State} {m : MethodId} {args : Array Value} {below : List Frame} {meth : Method} {c0 : Code} {g : Geo} {A : Nat → Prop} {H0 H : Heap} {cells slots : Nat} {Q : State → Prop} {locs : List Loc} {ls : Array Slot}
theorem zev_after {Ψ : Option Value → Mem → Prop} {a : Array Value} {st0 : List Value} (C : zCx own cc nL fr lo p R s m args c0 g A H0 cells slots) (hW : zWd g σ H) (hS : va_S A H0 H locs) (hL : LR g ls nL ab)
    (hret : ∀ (v : Option Value) (σ' : Mem) (pc' : Nat) (H' : Heap) (locs' : List Loc) (ls' : Array Slot), Φ v σ' → isRet cc pc' v → zWd g σ' H' → va_S A H0 H' locs' → W p l e R s m args below meth c0 H' locs' cells slots Q (F0 m pc' ls' ((v.map (tr g)).toList)))
    (hr : va_Run p l e R s m args below meth c0 H locs cells slots 0 0 (F0 m pc ls st0) (rest.map (tr g)) (zQcG g Ψ a) (zgA g))
    (kk : ∀ v σ', Ψ v σ' → zEv own cc nL fr lo Φ (pc + 3) ab (v.toList ++ rest) σ') : W p l e R s m args below meth c0 H locs cells slots Q (F0 m pc ls st0) := by
  intro T hT X
  obtain ⟨v, st₀, t, T', L, h0, X', hL2, e1, e2, ⟨⟨w, σ', hv, hΨ, hW'⟩, hz, hk⟩, go⟩ := hr T hT X
  have hv' : v = w.map (tr g) := Outcome.returned.inj hv
  subst hv'
  rw [h0] at hz hk
  have hS' : va_S A H0 T'.heap (locs ++ L) := by
    refine ⟨Nat.le_trans hS.1 (by rw [e1]; exact hz), fun q h1 h2 => ?_, fun q hq => ?_⟩
    · rw [e1, hk q (Nat.lt_of_lt_of_le h1 hS.1) (fun z => h2 ?_)]
      · exact hS.2.1 q h1 h2
      · obtain ⟨k, hk1, rfl⟩ := z
        exact C.2.2.2.2.2.2.1 k hk1
    · rcases List.mem_append.mp hq with h | h
      · exact hS.2.2 q h
      · obtain ⟨k, hk1, hk2⟩ := hL2 q h
        rw [hk2]
        exact C.2.2.2.2.2.2.1 k hk1
  obtain ⟨t2, a1, b1⟩ := kk w σ' hΨ p l e R s m args below meth c0 g A H0 cells slots Q T'.heap (locs ++ L) ls C (by rw [e1]; exact hW') hS' hL hret T' rfl X'
  refine ⟨t2, go t2 ?_, b1⟩
  have : (w.toList ++ rest).map (tr g) = (w.map (tr g)).toList ++ rest.map (tr g) := by cases w <;> simp
  rw [this] at a1
  exact a1
theorem zev_callV {y : MethodName} {cc' : ByteArray} {nL' fr' lo' n c ci idx : Nat} {ret : Option FieldType} {av : List Value} {Ψ : Option Value → Mem → Prop} {T : u_T} {N : Nat} (hd : decode cc pc = .ok (.invokevirtual idx, 3)) (hK : KV own idx y cc' nL' ret n) (hst : st = av.reverse ++ .ref c :: rest) (hsh : zshapes[c]? = some (.inl ci)) (hcl : vwCl[ci]? = some (y.cls, T, N)) (hn : av.length = n) (hroom : fr' + 1 ≤ fr ∧ 8 + (nL' + 11) + lo' ≤ lo) (hcat : (rest.map fun v => v.category).sum ≤ 8)
    (hC : zCon y cc' nL' ret fr' lo' (.ref c :: av) σ Ψ) (kk : ∀ v σ', Ψ v σ' → zEv own cc nL fr lo Φ (pc + 3) ab (v.toList ++ rest) σ') : zEv own cc nL fr lo Φ pc ab st σ := by
  intro p l e R s m args below meth c0 g A H0 cells slots Q H locs ls C hW hS hL hret
  obtain ⟨k1, k2, k3, k4, k5, k6, k7, k8⟩ := hK
  have hts := C.2.2.2.2.1
  have hat := zcellsG_at g σ (zshapes_lt hsh)
  rw [zent_o hsh] at hat
  have hgood : GoodIn G (wsV own idx y.cls y (Cond.code y cc' nL' ret :: G)) := by
    intro w hw
    have hw' : w ∈ G := by
      unfold wsV at hw
      simp only [List.cons_append, List.nil_append, List.mem_cons] at hw
      rcases hw with h | h | h | h | h | h
      · rw [h]; exact k1
      · rw [h]; exact k2
      · rw [h]; exact k3
      · rw [h]; exact k4
      · rw [h]; exact k5
      · exact h
    exact ⟨hw', good_of_word (memG' hw').2⟩
  refine zev_after (a := (Value.ref (g.1 c) :: av.map (tr g)).toArray) C hW hS hL hret ?_ kk
  subst hst
  refine va_runV (C := y.cls) (b := g.1 c) (As := av.map (tr g)) (rest := rest.map (tr g)) ⟨C.1, C.2.1, C.2.2.1, C.2.2.2.1, hts⟩ (hC l g) (cwV n hts hgood rfl rfl rfl ⟨rfl, k6, k7, k8⟩ ⟨?_, ?_⟩) ⟨zBpG_blind g σ _, va_recv C.2.2.2.2.2.1.1 hW.1 hcl hat, fun U hU hWU => ⟨rfl, by rw [hU]; exact hW, va_K.moved hWU.alike C.2.2.2.2.2.1.1, by rw [hU]; exact C.2.2.2.2.2.1.2.to hWU hS (fun q hq => by obtain ⟨k, hk, rfl⟩ := hq; exact C.2.2.2.2.2.2.1 k hk)⟩⟩ rfl (by rw [List.length_map]; exact hn) hL.1 ?_ ?_ hd ⟨by have := C.2.2.2.2.2.2.2.2.2.1; omega, by have := C.2.2.2.2.2.2.2.2.2.2; omega⟩
  · have := C.2.2.2.2.2.2.2.1
    show fr' + 1 ≤ _
    omega
  · have := C.2.2.2.2.2.2.2.2.1
    show 8 + (nL' + 11) + lo' ≤ _
    omega
  · show (av.reverse ++ .ref c :: rest).map (tr g) = _
    rw [List.map_append, List.map_reverse]
    rfl
  · refine lv_room ?_
    rw [tr_cats]
    exact hcat
theorem zev_callS {y : MethodName} {cc' : ByteArray} {nL' fr' lo' n idx : Nat} {ret : Option FieldType} {av : List Value} {Ψ : Option Value → Mem → Prop} (hd : decode cc pc = .ok (.invokestatic idx, 3)) (hK : KS own idx y cc' nL' ret n) (hst : st = av.reverse ++ rest) (hn : av.length = n) (hroom : fr' + 1 ≤ fr ∧ 8 + (nL' + 11) + lo' ≤ lo) (hcat : (rest.map fun v => v.category).sum ≤ 8)
    (hC : zCon y cc' nL' ret fr' lo' av σ Ψ) (kk : ∀ v σ', Ψ v σ' → zEv own cc nL fr lo Φ (pc + 3) ab (v.toList ++ rest) σ') : zEv own cc nL fr lo Φ pc ab st σ := by
  intro p l e R s m args below meth c0 g A H0 cells slots Q H locs ls C hW hS hL hret
  obtain ⟨k1, k2, k4, k5, k6, k7, k8⟩ := hK
  have hts := C.2.2.2.2.1
  have hgood : GoodIn G (Cond.code y cc' nL' ret :: G) := goodG (fun _ h => h) k5
  refine zev_after (a := (av.map (tr g)).toArray) C hW hS hL hret ?_ kk
  subst hst
  refine va_runS (As := av.map (tr g)) (rest := rest.map (tr g)) ⟨C.1, C.2.1, C.2.2.1, C.2.2.2.1, hts⟩ (hC l g) ⟨callB_of n hts hgood rfl rfl rfl (hts _ k4) (hts _ k1) ⟨k6, k7, k8⟩ ⟨?_, ?_⟩, hts _ k2⟩ ⟨zBpG_blind g σ _, fun U hU hWU => ⟨rfl, by rw [hU]; exact hW, va_K.moved hWU.alike C.2.2.2.2.2.1.1, by rw [hU]; exact C.2.2.2.2.2.1.2.to hWU hS (fun q hq => by obtain ⟨k, hk, rfl⟩ := hq; exact C.2.2.2.2.2.2.1 k hk)⟩⟩ rfl (by rw [List.length_map]; exact hn) hL.1 ?_ ?_ hd ⟨by have := C.2.2.2.2.2.2.2.2.2.1; omega, by have := C.2.2.2.2.2.2.2.2.2.2; omega⟩
  · have := C.2.2.2.2.2.2.2.1
    show fr' + 1 ≤ _
    omega
  · have := C.2.2.2.2.2.2.2.2.1
    show 8 + (nL' + 11) + lo' ≤ _
    omega
  · show (av.reverse ++ rest).map (tr g) = _
    rw [List.map_append, List.map_reverse]
  · refine lv_room ?_
    rw [tr_cats]
    exact hcat
end ZCALL
section ZCALLS
variable {own : String} {cc : ByteArray} {nL fr lo : Nat} {Φ : Option Value → Mem → Prop} {pc : Nat} {ab : List (Option Value)} {st rest : List Value} {σ σ' : Mem} {y : MethodName} {host : String} {cc' : ByteArray} {nL' fr' lo' n c ci idx : Nat} {ret : Option FieldType} {av : List Value} {T : u_T} {N : Nat} {z : Int}
theorem zev_callVV (hd : decode cc pc = .ok (.invokevirtual idx, 3)) (hK : KV own idx y cc' nL' ret n) (hC : zCon y cc' nL' ret fr' lo' (.ref c :: av) σ (AnsV σ')) (hst : st = av.reverse ++ .ref c :: rest) (hsh : zshapes[c]? = some (.inl ci)) (hcl : vwCl[ci]? = some (y.cls, T, N)) (hn : av.length = n) (hroom : fr' + 1 ≤ fr ∧ 8 + (nL' + 11) + lo' ≤ lo) (hcat : (rest.map fun v => v.category).sum ≤ 8) (kk : zEv own cc nL fr lo Φ (pc + 3) ab rest σ') : zEv own cc nL fr lo Φ pc ab st σ := zev_callV hd hK hst hsh hcl hn hroom hcat hC (by rintro v τ ⟨rfl, rfl⟩; exact kk)
theorem zev_callSV (hd : decode cc pc = .ok (.invokestatic idx, 3)) (hK : KS own idx y cc' nL' ret n) (hC : zCon y cc' nL' ret fr' lo' av σ (AnsV σ')) (hst : st = av.reverse ++ rest) (hn : av.length = n) (hroom : fr' + 1 ≤ fr ∧ 8 + (nL' + 11) + lo' ≤ lo) (hcat : (rest.map fun v => v.category).sum ≤ 8) (kk : zEv own cc nL fr lo Φ (pc + 3) ab rest σ') : zEv own cc nL fr lo Φ pc ab st σ := zev_callS hd hK hst hn hroom hcat hC (by rintro v τ ⟨rfl, rfl⟩; exact kk)
end ZCALLS
theorem zplO {P : Nat} (h : P = 3 ∨ P = 20) : zshapes[P]? = some (.inl 2) := by rcases h with rfl | rfl <;> rfl
theorem zplA9 {P : Nat} (h : P = 3 ∨ P = 20) : zshapes[P + 9]? = some (.inr (0, 4)) := by rcases h with rfl | rfl <;> rfl
theorem zplA12 {P : Nat} (h : P = 3 ∨ P = 20) : zshapes[P + 12]? = some (.inr (0, 4)) := by rcases h with rfl | rfl <;> rfl
theorem zk_fill (σ : Mem) (c n : Nat) (v : Int) (hsh : zshapes[c]? = some (.inr (0, n))) (hn : n ≤ 4096) (hv : inR v) : zCon yJ7_fill_53178 cJ7_fill_53178 4 none 0 0 [.ref c, .int (iI v)] σ (AnsV (fillM σ c v n)) := by
  refine zcon_of (by decide) rfl (Nat.le_of_ble_eq_true rfl) (ok_V rfl) ?_
  refine zev_w (fun hR => ?_)
  have hR0 := hR
  have loop : ∀ i : Nat, i ≤ n → zEv RJ7 cJ7_fill_53178 4 0 0 (AnsV (fillM σ c v n)) 5 [some (.ref c), some (.int (iI v)), some (.int (iI (i : Nat))), some (.int (iI n))] [] (fillM σ c v i) := by
    refine for_up n (fun i hi ih => ?_)
    refine zev_w (fun hR => ?_)
    refine zev_iload_n dJ7_fill_53178_5 rfl ?_
    refine zev_iload_n dJ7_fill_53178_6 rfl ?_
    refine zev_icmp_ge (tgt := 20) dJ7_fill_53178_7 (by decide) (by first | exact hR.1 _ _ | exact hR0.1 _ _ | assumption | exact ⟨by omega, by omega⟩ | exact ⟨by simp [wr_at]; omega, by simp [wr_at]; omega⟩ | exact b2_R _ | exact band_R _ _ | exact bor_R _ _ | exact bshl_R _ _ | exact bshr_R _ _ | exact bxor_R _ _ | exact bs_R (by omega) | decide) (by first | exact hR.1 _ _ | exact hR0.1 _ _ | assumption | exact ⟨by omega, by omega⟩ | exact ⟨by simp [wr_at]; omega, by simp [wr_at]; omega⟩ | exact b2_R _ | exact band_R _ _ | exact bor_R _ _ | exact bshl_R _ _ | exact bshr_R _ _ | exact bxor_R _ _ | exact bs_R (by omega) | decide) (fun h_7 => ?_) (fun h_7 => ?_)
    · refine zev_return dJ7_fill_53178_20 ?_
      obtain rfl : i = n := by omega
      exact ⟨rfl, rfl⟩
    · refine zev_aload_n dJ7_fill_53178_10 rfl ?_
      refine zev_iload_n dJ7_fill_53178_11 rfl ?_
      refine zev_iload_n dJ7_fill_53178_12 rfl ?_
      refine zev_iastore dJ7_fill_53178_13 hsh (by first | omega | (simp [wr_at]; omega) | (simp [wr_at, *]; omega)) (by first | omega | (simp [wr_at]; omega) | (simp [wr_at, *]; omega)) hn (by first | exact hR.1 _ _ | exact hR0.1 _ _ | assumption | exact ⟨by omega, by omega⟩ | exact ⟨by simp [wr_at]; omega, by simp [wr_at]; omega⟩ | exact b2_R _ | exact band_R _ _ | exact bor_R _ _ | exact bshl_R _ _ | exact bshr_R _ _ | exact bxor_R _ _ | exact bs_R (by omega) | decide) ?_
      refine zev_w (fun hR => ?_)
      refine zev_iinc dJ7_fill_53178_14 rfl rfl (by decide) rfl ?_
      refine zev_goto (tgt := 5) dJ7_fill_53178_17 (by decide) ?_
      rw [fillM_s]
      exact ih (by omega)
  refine zev_σ (fillM_0 σ c v).symm ?_
  refine zev_iconst dJ7_fill_53178_0 ?_
  refine zev_istore_n dJ7_fill_53178_1 rfl (by decide) rfl ?_
  refine zev_aload_n dJ7_fill_53178_2 rfl ?_
  refine zev_alen dJ7_fill_53178_3 hsh ?_
  refine zev_istore_n dJ7_fill_53178_4 rfl (by decide) rfl ?_
  exact loop 0 (by omega)
theorem zk_begin (σ : Mem) (P nr : Nat) (hP : P = 3 ∨ P = 20) (hn : σ.1 P 1 = nr) (hnr : nr ≤ 12) : zCon yX5_begin cX5_begin 2 none 1 48 [.ref 37, .ref P] σ (AnsV (beginM σ P nr)) := by
  refine zcon_of (by decide) rfl (Nat.le_of_ble_eq_true rfl) (ok_V rfl) ?_
  refine zev_w (fun hR => ?_)
  have hR0 := hR
  have hp : 2 ^ nr ≤ 2 ^ 12 := Nat.pow_le_pow_right (by decide) hnr
  have hP37 : P ≠ 37 := by omega
  refine zev_aload_n dX5_begin_0 rfl ?_
  refine zev_iconst dX5_begin_1 ?_
  refine zev_putI (kz := 0) dX5_begin_2 fp_X5_36 rfl rfl rfl (by first | exact hR.1 _ _ | exact hR0.1 _ _ | assumption | exact ⟨by omega, by omega⟩ | exact ⟨by simp [wr_at]; omega, by simp [wr_at]; omega⟩ | exact b2_R _ | exact band_R _ _ | exact bor_R _ _ | exact bshl_R _ _ | exact bshr_R _ _ | exact bxor_R _ _ | exact bs_R (by omega) | decide) ?_
  refine zev_w (fun hR => ?_)
  refine zev_aload_n dX5_begin_5 rfl ?_
  refine zev_iconst dX5_begin_6 ?_
  refine zev_putI (kz := 1) dX5_begin_7 fp_X5_40 rfl rfl rfl (by first | exact hR.1 _ _ | exact hR0.1 _ _ | assumption | exact ⟨by omega, by omega⟩ | exact ⟨by simp [wr_at]; omega, by simp [wr_at]; omega⟩ | exact b2_R _ | exact band_R _ _ | exact bor_R _ _ | exact bshl_R _ _ | exact bshr_R _ _ | exact bxor_R _ _ | exact bs_R (by omega) | decide) ?_
  refine zev_w (fun hR => ?_)
  refine zev_aload_n dX5_begin_10 rfl ?_
  refine zev_iconst dX5_begin_11 ?_
  refine zev_aload_n dX5_begin_12 rfl ?_
  refine zev_getI (kz := 1) dX5_begin_13 fl_X5_43 (zplO hP) rfl rfl ?_
  rw [wr_nec _ hP37, wr_nec _ hP37, hn]
  refine zev_ishl dX5_begin_16 ?_
  rw [bshl1 nr (by omega)]
  refine zev_iconst dX5_begin_17 ?_
  refine zev_isub dX5_begin_18 ?_
  refine zev_putI (kz := 3) dX5_begin_19 fp_X5_48 rfl rfl rfl (by generalize 2 ^ nr = N at hp; exact ⟨by omega, by omega⟩) ?_
  refine zev_w (fun hR => ?_)
  refine zev_aload_n dX5_begin_22 rfl ?_
  refine zev_iconst dX5_begin_23 ?_
  refine zev_putI (kz := 4) dX5_begin_24 fp_X5_51 rfl rfl rfl (by first | exact hR.1 _ _ | exact hR0.1 _ _ | assumption | exact ⟨by omega, by omega⟩ | exact ⟨by simp [wr_at]; omega, by simp [wr_at]; omega⟩ | exact b2_R _ | exact band_R _ _ | exact bor_R _ _ | exact bshl_R _ _ | exact bshr_R _ _ | exact bxor_R _ _ | exact bs_R (by omega) | decide) ?_
  refine zev_w (fun hR => ?_)
  refine zev_aload_n dX5_begin_27 rfl ?_
  refine zev_iconst dX5_begin_28 ?_
  refine zev_putI (kz := 5) dX5_begin_29 fp_X5_54 rfl rfl rfl (by first | exact hR.1 _ _ | exact hR0.1 _ _ | assumption | exact ⟨by omega, by omega⟩ | exact ⟨by simp [wr_at]; omega, by simp [wr_at]; omega⟩ | exact b2_R _ | exact band_R _ _ | exact bor_R _ _ | exact bshl_R _ _ | exact bshr_R _ _ | exact bxor_R _ _ | exact bs_R (by omega) | decide) ?_
  refine zev_w (fun hR => ?_)
  refine zev_aload_n dX5_begin_32 rfl ?_
  refine zev_iconst dX5_begin_33 ?_
  refine zev_putI (kz := 6) dX5_begin_34 fp_X5_57 rfl rfl rfl (by first | exact hR.1 _ _ | exact hR0.1 _ _ | assumption | exact ⟨by omega, by omega⟩ | exact ⟨by simp [wr_at]; omega, by simp [wr_at]; omega⟩ | exact b2_R _ | exact band_R _ _ | exact bor_R _ _ | exact bshl_R _ _ | exact bshr_R _ _ | exact bxor_R _ _ | exact bs_R (by omega) | decide) ?_
  refine zev_w (fun hR => ?_)
  refine zev_aload_n dX5_begin_37 rfl ?_
  refine zev_getR (r := 38) dX5_begin_38 fl_X5_9 rfl rfl rfl ?_
  refine zev_iconst dX5_begin_41 ?_
  refine zev_callSV dX5_begin_42 ks_X5_60 (zk_fill _ 38 12 0 rfl (by decide) (by decide)) rfl rfl ⟨by decide, by decide⟩ (Nat.le_of_ble_eq_true rfl) ?_
  refine zev_w (fun hR => ?_)
  refine zev_aload_n dX5_begin_45 rfl ?_
  refine zev_getR (r := 40) dX5_begin_46 fl_X5_18 rfl rfl rfl ?_
  refine zev_iconst dX5_begin_49 ?_
  refine zev_callSV dX5_begin_50 ks_X5_60 (zk_fill _ 40 4 (-1) rfl (by decide) (by decide)) rfl rfl ⟨by decide, by decide⟩ (Nat.le_of_ble_eq_true rfl) ?_
  refine zev_w (fun hR => ?_)
  refine zev_aload_n dX5_begin_53 rfl ?_
  refine zev_getR (r := 41) dX5_begin_54 fl_X5_21 rfl rfl rfl ?_
  refine zev_iconst dX5_begin_57 ?_
  refine zev_callSV dX5_begin_58 ks_X5_60 (zk_fill _ 41 4 0 rfl (by decide) (by decide)) rfl rfl ⟨by decide, by decide⟩ (Nat.le_of_ble_eq_true rfl) ?_
  refine zev_w (fun hR => ?_)
  refine zev_aload_n dX5_begin_61 rfl ?_
  refine zev_getR (r := 43) dX5_begin_62 fl_X5_27 rfl rfl rfl ?_
  refine zev_iconst dX5_begin_65 ?_
  refine zev_callSV dX5_begin_66 ks_X5_60 (zk_fill _ 43 4 (-1) rfl (by decide) (by decide)) rfl rfl ⟨by decide, by decide⟩ (Nat.le_of_ble_eq_true rfl) ?_
  refine zev_w (fun hR => ?_)
  refine zev_aload_n dX5_begin_69 rfl ?_
  refine zev_getR (r := P + 9) dX5_begin_70 fl_X5_66 (zplO hP) rfl rfl ?_
  refine zev_iconst dX5_begin_73 ?_
  refine zev_aload_n dX5_begin_74 rfl ?_
  refine zev_getR (r := 39) dX5_begin_75 fl_X5_15 rfl rfl rfl ?_
  refine zev_iconst dX5_begin_78 ?_
  refine zev_iconst dX5_begin_79 ?_
  refine zev_copy dX5_begin_80 ka_X5_69 (zplA9 hP) rfl (by omega) (by omega) (by omega) (by omega) (by omega) (by decide) (by decide) (by decide) (by decide) (Nat.le_of_ble_eq_true rfl) ?_
  refine zev_w (fun hR => ?_)
  refine zev_aload_n dX5_begin_83 rfl ?_
  refine zev_getR (r := P + 12) dX5_begin_84 fl_X5_75 (zplO hP) rfl rfl ?_
  refine zev_iconst dX5_begin_87 ?_
  refine zev_aload_n dX5_begin_88 rfl ?_
  refine zev_getR (r := 42) dX5_begin_89 fl_X5_24 rfl rfl rfl ?_
  refine zev_iconst dX5_begin_92 ?_
  refine zev_iconst dX5_begin_93 ?_
  refine zev_copy dX5_begin_94 ka_X5_69 (zplA12 hP) rfl (by omega) (by omega) (by omega) (by omega) (by omega) (by decide) (by decide) (by decide) (by decide) (Nat.le_of_ble_eq_true rfl) ?_
  refine zev_w (fun hR => ?_)
  refine zev_return dX5_begin_97 ?_
  exact ⟨rfl, rfl⟩
