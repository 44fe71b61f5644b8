/-! fields, arrays, constants, switches -/
/-- a field that the class 'own' names by 'idx': the k-th of the class numbered ci -/
def FL (own : String) (idx ci k : Nat) : Prop := ∃ (C : String) (T : u_T) (N : Nat) (ty : Nat → FieldType), vwCl[ci]? = some (C, T, N) ∧ nfld ci = N ∧ (∀ w ∈ u_ws C T N, w ∈ G) ∧ (∀ k, k < N → parseFieldDescriptor (T k).2.2.1 = some (ty k)) ∧ (∀ a, a < N → ∀ b, b < N → a ≠ b → (T a).2.1 ≠ (T b).2.1) ∧ k < N ∧ Cond.fieldLink own idx (T k).1 (T k).2.1 (T k).2.2.1 ∈ G
/-- the same, a field that may be written, of the type t -/
def FP (own : String) (idx ci k : Nat) (t : FieldType) : Prop := ∃ (C : String) (T : u_T) (N : Nat) (ty : Nat → FieldType), vwCl[ci]? = some (C, T, N) ∧ nfld ci = N ∧ (∀ w ∈ u_ws C T N, w ∈ G) ∧ (∀ k, k < N → parseFieldDescriptor (T k).2.2.1 = some (ty k)) ∧ (∀ a, a < N → ∀ b, b < N → a ≠ b → (T a).2.1 ≠ (T b).2.1) ∧ k < N ∧ Cond.fieldLink own idx (T k).1 (T k).2.1 (T k).2.2.1 ∈ G ∧ (T k).2.2.2 = false ∧ ty k = t
theorem fval_0 {σ : Mem} {c ci k : Nat} (h : (fkd ci k).1 = 0) : fval σ c ci k = .int (iI (σ.1 c k)) := by unfold fval; rw [if_pos h]
theorem fval_1 {σ : Mem} {c ci k : Nat} (h : (fkd ci k).1 = 1) : fval σ c ci k = .long (lI σ.2) := by unfold fval; rw [if_neg (by omega), if_pos h]
theorem fval_2 {σ : Mem} {c ci k : Nat} (h : (fkd ci k).1 = 2) : fval σ c ci k = .ref (c + (fkd ci k).2) := by unfold fval; rw [if_neg (by omega), if_neg (by omega), if_pos h]
theorem fval_3 {σ : Mem} {c ci k : Nat} (h : (fkd ci k).1 = 3) : fval σ c ci k = .ref (σ.1 c k).toNat := by unfold fval; rw [if_neg (by omega), if_neg (by omega), if_neg (by omega)]
section EVM
variable {own : String} {cc : ByteArray} {nL fr lo : Nat} {Φ : Option Value → Mem → Prop} {pc : Nat} {ab : List (Option Value)} {st : List Value} {σ : Mem}
theorem ev_get {idx ci k c : Nat} {v : Value} (hd : decode cc pc = .ok (.getfield idx, 3)) (hF : FL own idx ci k) (hsh : shapes[c]? = some (.inl ci)) (hv : fval σ c ci k = v) (kk : Ev own cc nL fr lo Φ (pc + 3) ab (v :: st) σ) : Ev own cc nL fr lo Φ pc ab (.ref c :: st) σ := by
  intro p l e R s m args below meth c0 g A H0 cells slots Q H locs ls Cx hW hS hL hret
  obtain ⟨C, T, N, ty, h1, h2, h3, h4, h5, h6, h7⟩ := hF
  have he := cellsG_at g σ (shapes_lt hsh)
  rw [ent_o hsh] at he
  subst hv
  exact va_get Cx.1 Cx.2.1 Cx.2.2.2.2.1 h3 Cx.2.2.2.1 Cx.2.2.2.2.2.1.1 hW.1 c he h1 k h6 (Cx.2.2.2.2.1 _ h7) (fun _ h => h) (flds_at (by omega)) hd (kk p l e R s m args below meth c0 g A H0 cells slots Q H locs ls Cx hW hS hL hret)
theorem ev_getI {idx ci k c : Nat} {kz : Int} (hd : decode cc pc = .ok (.getfield idx, 3)) (hF : FL own idx ci k) (hsh : shapes[c]? = some (.inl ci)) (hf : (fkd ci k).1 = 0) (hk : (k : Int) = kz) (kk : Ev own cc nL fr lo Φ (pc + 3) ab (.int (iI (σ.1 c kz)) :: st) σ) : Ev own cc nL fr lo Φ pc ab (.ref c :: st) σ := by
  subst hk
  exact ev_get hd hF hsh (fval_0 hf) kk
theorem ev_getJ {idx ci k c : Nat} (hd : decode cc pc = .ok (.getfield idx, 3)) (hF : FL own idx ci k) (hsh : shapes[c]? = some (.inl ci)) (hf : (fkd ci k).1 = 1) (kk : Ev own cc nL fr lo Φ (pc + 3) ab (.long (lI σ.2) :: st) σ) : Ev own cc nL fr lo Φ pc ab (.ref c :: st) σ := ev_get hd hF hsh (fval_1 hf) kk
theorem ev_getR {idx ci k c : Nat} {r : Nat} (hd : decode cc pc = .ok (.getfield idx, 3)) (hF : FL own idx ci k) (hsh : shapes[c]? = some (.inl ci)) (hf : (fkd ci k).1 = 2) (hr : c + (fkd ci k).2 = r) (kk : Ev own cc nL fr lo Φ (pc + 3) ab (.ref r :: st) σ) : Ev own cc nL fr lo Φ pc ab (.ref c :: st) σ := by
  subst hr
  exact ev_get hd hF hsh (fval_2 hf) kk
theorem ev_getQ {idx ci k c : Nat} {r : Nat} (hd : decode cc pc = .ok (.getfield idx, 3)) (hF : FL own idx ci k) (hsh : shapes[c]? = some (.inl ci)) (hf : (fkd ci k).1 = 3) (hr : (σ.1 c k).toNat = r) (kk : Ev own cc nL fr lo Φ (pc + 3) ab (.ref r :: st) σ) : Ev own cc nL fr lo Φ pc ab (.ref c :: st) σ := by
  subst hr
  exact ev_get hd hF hsh (fval_3 hf) kk
theorem ev_put {idx ci k c : Nat} {t : FieldType} {v : Value} {σ' : Mem} (hd : decode cc pc = .ok (.putfield idx, 3)) (hF : FP own idx ci k t) (hsh : shapes[c]? = some (.inl ci)) (hn : ∀ g, narrow t (tr g v) = tr g v) (hfit : ∀ g, fits t (tr g v) = true)
    (hR : Rng σ → Rng σ') (he : fval σ' c ci k = v) (ho : ∀ j, j ≠ k → fval σ' c ci j = fval σ c ci j) (hx : ∀ g c', c' ≠ c → ent g σ' c' = ent g σ c')
    (kk : Ev own cc nL fr lo Φ (pc + 3) ab st σ') : Ev own cc nL fr lo Φ pc ab (v :: .ref c :: st) σ := by
  intro p l e R s m args below meth c0 g A H0 cells slots Q H locs ls Cx hW hS hL hret
  obtain ⟨C, T, N, ty, h1, h2, h3, h4, h5, h6, h7, h8, h9⟩ := hF
  have hat := cellsG_at g σ (shapes_lt hsh)
  rw [ent_o hsh] at hat
  have hty : parseFieldDescriptor (T k).2.2.1 = some t := by rw [h4 k h6, h9]
  refine va_put Cx.1 Cx.2.1 Cx.2.2.2.2.1 h3 ty h4 h5 Cx.2.2.2.1 Cx.2.2.2.2.2.1.1 hW.1 (cellsG_D hW.2.1 Cx.2.2.2.2.2.2.1) hS c hat h1 k h6 (Cx.2.2.2.2.1 _ h7) (fun _ h => h) h8 hty (hn g) (hfit g) (by rw [flds_len]; omega) hd (fun H1 locs1 hP hD hS1 => ?_)
  have hq : (cellsG g σ).set c (g.1 c, .inr (ci, (flds g σ c ci).set k (tr g v))) = cellsG g σ' := by
    refine cellsG_set (shapes_lt hsh) ?_ (hx g)
    rw [ent_o hsh, flds_set (σ' := σ') (by omega) (by rw [he]) ho]
  rw [hq] at hP hD
  exact kk p l e R s m args below meth c0 g A H0 cells slots Q H1 locs1 ls Cx ⟨hP, cellsG_D' hD, hR hW.2.2⟩ hS1 hL hret
theorem ev_putI {idx ci k c : Nat} {z kz : Int} (hd : decode cc pc = .ok (.putfield idx, 3)) (hF : FP own idx ci k .int) (hsh : shapes[c]? = some (.inl ci)) (hf : (fkd ci k).1 = 0) (hk : (k : Int) = kz) (hz : inR z) (kk : Ev own cc nL fr lo Φ (pc + 3) ab st (wr σ c kz z)) : Ev own cc nL fr lo Φ pc ab (.int (iI z) :: .ref c :: st) σ := by
  subst hk
  refine ev_put hd hF hsh (fun _ => rfl) (fun _ => rfl) (fun h => wr_R h hz) ?_ (fun j hj => fval_nek hj) (fun g c' h => ent_ne h) kk
  rw [fval_0 hf, wr_eq]
theorem ev_putJ {idx ci k c : Nat} {z : Int} (hd : decode cc pc = .ok (.putfield idx, 3)) (hF : FP own idx ci k .long) (hsh : shapes[c]? = some (.inl ci)) (hf : (fkd ci k).1 = 1) (ho : ∀ j, j ≠ k → (fkd ci j).1 ≠ 1) (hx : ∀ c' ci', c' ≠ c → shapes[c']? = some (.inl ci') → ∀ j, j < nfld ci' → (fkd ci' j).1 ≠ 1) (hz : inL z) (kk : Ev own cc nL fr lo Φ (pc + 3) ab st (wrL σ z)) : Ev own cc nL fr lo Φ pc ab (.long (lI z) :: .ref c :: st) σ := by
  have key : ∀ c' ci' j, (fkd ci' j).1 ≠ 1 → fval (wrL σ z) c' ci' j = fval σ c' ci' j := by
    intro c' ci' j h
    unfold fval
    rw [if_neg h, if_neg h]
    rfl
  refine ev_put hd hF hsh (fun _ => rfl) (fun _ => rfl) (fun h => wrL_R h hz) (fval_1 hf) (fun j hj => key c ci j (ho j hj)) (fun g c' h => ?_) kk
  unfold ent
  split
  next ci' hs =>
    congr 2
    unfold flds
    exact List.map_congr_left (fun j hj => by rw [key c' ci' j (hx c' ci' h hs j (List.mem_range.mp hj))])
  · rfl
  · rfl
theorem ev_putQ {idx ci k c r : Nat} {C : String} (hd : decode cc pc = .ok (.putfield idx, 3)) (hF : FP own idx ci k (.object C)) (hsh : shapes[c]? = some (.inl ci)) (hf : (fkd ci k).1 = 3) {kz : Int} (hk : (k : Int) = kz) (hr : r < 1000) (kk : Ev own cc nL fr lo Φ (pc + 3) ab st (wr σ c kz r)) : Ev own cc nL fr lo Φ pc ab (.ref r :: .ref c :: st) σ := by
  subst hk
  refine ev_put hd hF hsh (fun _ => rfl) (fun _ => rfl) (fun h => wr_R h ⟨by omega, by omega⟩) ?_ (fun j hj => fval_nek hj) (fun g c' h => ent_ne h) kk
  rw [fval_3 hf, wr_eq]
  rfl
theorem ev_iaload {c n : Nat} {z : Int} (hd : decode cc pc = .ok (.iaload, 1)) (hsh : shapes[c]? = some (.inr (0, n))) (h0 : 0 ≤ z) (h1 : z < n) (hn : n ≤ 4096) (kk : Ev own cc nL fr lo Φ (pc + 1) ab (.int (iI (σ.1 c z)) :: st) σ) : Ev own cc nL fr lo Φ pc ab (.int (iI z) :: .ref c :: st) σ := by
  intro p l e R s m args below meth c0 g A H0 cells slots Q H locs ls Cx hW hS hL hret
  have hat := cellsG_at g σ (shapes_lt hsh)
  rw [ent_a hsh (by decide)] at hat
  refine va_iald Cx.1 Cx.2.1 Cx.2.2.2.2.2.1.1 hW.1 c 0 hat (tysG_at g rfl) (iI_vin h0 h1 (by omega)) hd ?_
  rw [iI_clamp h0 (by omega), Int.toNat_of_nonneg h0]
  exact kk p l e R s m args below meth c0 g A H0 cells slots Q H locs ls Cx hW hS hL hret
theorem ev_baload {c n : Nat} {z : Int} (hd : decode cc pc = .ok (.baload, 1)) (hsh : shapes[c]? = some (.inr (1, n))) (h0 : 0 ≤ z) (h1 : z < n) (hn : n ≤ 4096) (kk : Ev own cc nL fr lo Φ (pc + 1) ab (.int (iI (σ.1 c z)) :: st) σ) : Ev own cc nL fr lo Φ pc ab (.int (iI z) :: .ref c :: st) σ := by
  intro p l e R s m args below meth c0 g A H0 cells slots Q H locs ls Cx hW hS hL hret
  have hat := cellsG_at g σ (shapes_lt hsh)
  rw [ent_a hsh (by decide)] at hat
  refine va_bald Cx.1 Cx.2.1 Cx.2.2.2.2.2.1.1 hW.1 c 1 hat (tysG_at g rfl) (iI_vin h0 h1 (by omega)) hd ?_
  rw [iI_clamp h0 (by omega), Int.toNat_of_nonneg h0]
  exact kk p l e R s m args below meth c0 g A H0 cells slots Q H locs ls Cx hW hS hL hret
theorem ev_zaload {c n : Nat} {z : Int} (hd : decode cc pc = .ok (.baload, 1)) (hsh : shapes[c]? = some (.inr (2, n))) (h0 : 0 ≤ z) (h1 : z < n) (hn : n ≤ 4096) (kk : Ev own cc nL fr lo Φ (pc + 1) ab (.int (iI (σ.1 c z)) :: st) σ) : Ev own cc nL fr lo Φ pc ab (.int (iI z) :: .ref c :: st) σ := by
  intro p l e R s m args below meth c0 g A H0 cells slots Q H locs ls Cx hW hS hL hret
  have hat := cellsG_at g σ (shapes_lt hsh)
  rw [ent_a hsh (by decide)] at hat
  refine va_zald Cx.1 Cx.2.1 Cx.2.2.2.2.2.1.1 hW.1 c 2 hat (tysG_at g rfl) (iI_vin h0 h1 (by omega)) hd ?_
  rw [iI_clamp h0 (by omega), Int.toNat_of_nonneg h0]
  exact kk p l e R s m args below meth c0 g A H0 cells slots Q H locs ls Cx hW hS hL hret
theorem ent_upd {g : Geo} {σ : Mem} {c t n : Nat} {z v : Int} (hsh : shapes[c]? = some (.inr (t, n))) (ht : t ≠ 3) (h0 : 0 ≤ z) : ent g (wr σ c z v) c = .inl (acls g t, n, .inl (upd (fun j => iI (σ.1 c j)) z.toNat (iI v))) := by
  rw [ent_a hsh ht]
  congr 3
  congr 1
  funext j
  by_cases hj : j = z.toNat
  · subst hj
    rw [pk_us, Int.toNat_of_nonneg h0, wr_eq]
  · rw [pk_un hj, wr_nek σ (by omega)]
theorem ev_iastore {c n : Nat} {z v : Int} (hd : decode cc pc = .ok (.iastore, 1)) (hsh : shapes[c]? = some (.inr (0, n))) (h0 : 0 ≤ z) (h1 : z < n) (hn : n ≤ 4096) (hv : inR v) (kk : Ev own cc nL fr lo Φ (pc + 1) ab st (wr σ c z v)) : Ev own cc nL fr lo Φ pc ab (.int (iI v) :: .int (iI z) :: .ref c :: st) σ := by
  intro p l e R s m args below meth c0 g A H0 cells slots Q H locs ls Cx hW hS hL hret
  have hat := cellsG_at g σ (shapes_lt hsh)
  rw [ent_a hsh (by decide)] at hat
  refine va_iast Cx.1 Cx.2.1 Cx.2.2.2.2.2.1.1 hW.1 (cellsG_D hW.2.1 Cx.2.2.2.2.2.2.1) hS c 0 hat (tysG_at g rfl) (iI_vin h0 h1 (by omega)) hd (fun H1 locs1 hP hD hS1 => ?_)
  rw [iI_clamp h0 (by omega), cellsG_set (σ' := wr σ c z v) (shapes_lt hsh) (ent_upd hsh (by decide) h0) (fun c' h => ent_ne h)] at hP hD
  exact kk p l e R s m args below meth c0 g A H0 cells slots Q H1 locs1 ls Cx ⟨hP, cellsG_D' hD, wr_R hW.2.2 hv⟩ hS1 hL hret
theorem ev_bastore {c n : Nat} {z v : Int} (hd : decode cc pc = .ok (.bastore, 1)) (hsh : shapes[c]? = some (.inr (1, n))) (h0 : 0 ≤ z) (h1 : z < n) (hn : n ≤ 4096) (hv : -128 ≤ v) (hv2 : v ≤ 127) (kk : Ev own cc nL fr lo Φ (pc + 1) ab st (wr σ c z v)) : Ev own cc nL fr lo Φ pc ab (.int (iI v) :: .int (iI z) :: .ref c :: st) σ := by
  intro p l e R s m args below meth c0 g A H0 cells slots Q H locs ls Cx hW hS hL hret
  have hat := cellsG_at g σ (shapes_lt hsh)
  rw [ent_a hsh (by decide)] at hat
  refine va_bast Cx.1 Cx.2.1 Cx.2.2.2.2.2.1.1 hW.1 (cellsG_D hW.2.1 Cx.2.2.2.2.2.2.1) hS c 1 hat (tysG_at g rfl) (iI_vin h0 h1 (by omega)) hd (fun H1 locs1 hP hD hS1 => ?_)
  have hnar : vp_nar .byte (iI v) = iI v := by
    rw [vp_nar_byte]
    apply Int32.toInt_inj.mp
    have h8 : (iI v).toInt8 = Int8.ofInt v := Int32.toInt8_ofInt
    rw [Int8.toInt_toInt32, h8, Int8.toInt_ofInt_of_le (by omega) (by omega), iI_toInt (by omega) (by omega)]
  rw [hnar, iI_clamp h0 (by omega), cellsG_set (σ' := wr σ c z v) (shapes_lt hsh) (ent_upd hsh (by decide) h0) (fun c' h => ent_ne h)] at hP hD
  exact kk p l e R s m args below meth c0 g A H0 cells slots Q H1 locs1 ls Cx ⟨hP, cellsG_D' hD, wr_R hW.2.2 ⟨by omega, by omega⟩⟩ hS1 hL hret
theorem ev_zastore {c n : Nat} {z v : Int} (hd : decode cc pc = .ok (.bastore, 1)) (hsh : shapes[c]? = some (.inr (2, n))) (h0 : 0 ≤ z) (h1 : z < n) (hn : n ≤ 4096) (hv : v = 0 ∨ v = 1) (kk : Ev own cc nL fr lo Φ (pc + 1) ab st (wr σ c z v)) : Ev own cc nL fr lo Φ pc ab (.int (iI v) :: .int (iI z) :: .ref c :: st) σ := by
  intro p l e R s m args below meth c0 g A H0 cells slots Q H locs ls Cx hW hS hL hret
  have hat := cellsG_at g σ (shapes_lt hsh)
  rw [ent_a hsh (by decide)] at hat
  refine va_zast Cx.1 Cx.2.1 Cx.2.2.2.2.2.1.1 hW.1 (cellsG_D hW.2.1 Cx.2.2.2.2.2.2.1) hS c 2 hat (tysG_at g rfl) (iI_vin h0 h1 (by omega)) hd (fun H1 locs1 hP hD hS1 => ?_)
  have hnar : vp_nar .boolean (iI v) = iI v := by
    rcases hv with rfl | rfl <;> decide
  rw [hnar, iI_clamp h0 (by omega), cellsG_set (σ' := wr σ c z v) (shapes_lt hsh) (ent_upd hsh (by decide) h0) (fun c' h => ent_ne h)] at hP hD
  exact kk p l e R s m args below meth c0 g A H0 cells slots Q H1 locs1 ls Cx ⟨hP, cellsG_D' hD, wr_R hW.2.2 ⟨by omega, by omega⟩⟩ hS1 hL hret
theorem ev_aaload {z : Int} (hd : decode cc pc = .ok (.aaload, 1)) (h0 : 0 ≤ z) (h1 : z < 2) (kk : Ev own cc nL fr lo Φ (pc + 1) ab (.ref (imgId z.toNat) :: st) σ) : Ev own cc nL fr lo Φ pc ab (.int (iI z) :: .ref 46 :: st) σ := by
  intro p l e R s m args below meth c0 g A H0 cells slots Q H locs ls Cx hW hS hL hret
  have hat := cellsG_at g σ (c := 46) (by decide)
  rw [ent_q (n := 2) rfl] at hat
  refine va_aldq Cx.1 Cx.2.1 Cx.2.2.2.2.2.1.1 hW.1 46 3 hat (tysG_at g rfl) (iI_vin h0 h1 (by omega)) hd ?_
  rw [iI_clamp h0 (by omega)]
  exact kk p l e R s m args below meth c0 g A H0 cells slots Q H locs ls Cx hW hS hL hret
theorem ev_ldc {idx : Nat} {v : Int32} {z : Int} (hd : decode cc pc = .ok (.ldc idx, 2)) (hw : Cond.constant own idx v ∈ G) (hz : v = iI z) (k : Ev own cc nL fr lo Φ (pc + 2) ab (.int (iI z) :: st) σ) : Ev own cc nL fr lo Φ pc ab st σ := by
  intro p l e R s m args below meth c g A H0 cells slots Q H locs ls C hW hS hL hret
  subst hz
  exact lv_ldc C.1 C.2.1 C.2.2.2.1 (C.2.2.2.2.1 _ hw) hd (k p l e R s m args below meth c g A H0 cells slots Q H locs ls C hW hS hL hret)
theorem ev_ldcw {idx : Nat} {v : Int32} {z : Int} (hd : decode cc pc = .ok (.ldc_w idx, 3)) (hw : Cond.constant own idx v ∈ G) (hz : v = iI z) (k : Ev own cc nL fr lo Φ (pc + 3) ab (.int (iI z) :: st) σ) : Ev own cc nL fr lo Φ pc ab st σ := by
  intro p l e R s m args below meth c g A H0 cells slots Q H locs ls C hW hS hL hret
  subst hz
  exact lv_ldcw C.1 C.2.1 C.2.2.2.1 (C.2.2.2.2.1 _ hw) hd (k p l e R s m args below meth c g A H0 cells slots Q H locs ls C hW hS hL hret)
theorem ev_ldc2 {idx : Nat} {v : Int64} {z : Int} (hd : decode cc pc = .ok (.ldc2_w idx, 3)) (hw : Cond.constantLong own idx v ∈ G) (hz : v = lI z) (k : Ev own cc nL fr lo Φ (pc + 3) ab (.long (lI z) :: st) σ) : Ev own cc nL fr lo Φ pc ab st σ := by
  intro p l e R s m args below meth c g A H0 cells slots Q H locs ls C hW hS hL hret
  subst hz
  exact lv_ldc2 C.1 C.2.1 C.2.2.2.1 (C.2.2.2.2.1 _ hw) hd (k p l e R s m args below meth c g A H0 cells slots Q H locs ls C hW hS hL hret)
theorem ev_tableOut {dflt lo' hi' : Int} {offs : Array Int} {len tgt : Nat} {z : Int} (hd : decode cc pc = .ok (.tableswitch dflt lo' hi' offs, len)) (hz : inR z) (h : z < lo' ∨ hi' < z) (ht : (pc : Int) + dflt = (tgt : Int)) (k : Ev own cc nL fr lo Φ tgt ab st σ) : Ev own cc nL fr lo Φ pc ab (.int (iI z) :: st) σ := by
  intro p l e R s m args below meth c g A H0 cells slots Q H locs ls C hW hS hL hret
  exact lv_tableOut C.1 C.2.1 hd (by rw [iI_toInt hz.1 hz.2]; exact h) ht (k p l e R s m args below meth c g A H0 cells slots Q H locs ls C hW hS hL hret)
theorem ev_tableIn {dflt lo' hi' off : Int} {offs : Array Int} {len tgt : Nat} {z : Int} (hd : decode cc pc = .ok (.tableswitch dflt lo' hi' offs, len)) (hz : inR z) (h1 : ¬ z < lo') (h2 : ¬ hi' < z) (ho : offs[(z - lo').toNat]? = some off) (ht : (pc : Int) + off = (tgt : Int)) (k : Ev own cc nL fr lo Φ tgt ab st σ) : Ev own cc nL fr lo Φ pc ab (.int (iI z) :: st) σ := by
  intro p l e R s m args below meth c g A H0 cells slots Q H locs ls C hW hS hL hret
  exact lv_tableIn C.1 C.2.1 hd (by rw [iI_toInt hz.1 hz.2]; exact h1) (by rw [iI_toInt hz.1 hz.2]; exact h2) (by rw [iI_toInt hz.1 hz.2]; exact ho) ht (k p l e R s m args below meth c g A H0 cells slots Q H locs ls C hW hS hL hret)
end EVM
