/-! the law's own run: as Ev, with what the script is -/
def EvX (X : Geo → (Nat → Prop) → State → Heap → Prop) (own : String) (cc : ByteArray) (nL fr lo : Nat) (Φ : Option Value → Mem → Prop) (pc : Nat) (ab : List (Option Value)) (st : List Value) (σ : Mem) : Prop :=
  ∀ (p : Program) (l : Launch) (e : Env) (R : Room) (s : State) (m : MethodId) (args : Array Value) (below : List Frame) (meth : Method) (c : Code) (g : Geo) (A : Nat → Prop) (H0 : Heap) (cells slots : Nat) (Q : State → Prop) (H : Heap) (locs : List Loc) (ls : Array Slot),
    Cx own cc nL fr lo p R s m args c g A H0 cells slots → X g A s H0 → Wd g σ H → va_S A H0 H locs → LR g ls nL ab →
    (∀ (v : Option Value) (σ' : Mem) (pc' : Nat) (H' : Heap) (locs' : List Loc) (ls' : Array Slot), Φ v σ' → isRet cc pc' v → Wd g σ' H' → va_S A H0 H' locs' → W p l e R s m args below meth c H' locs' cells slots Q (F0 m pc' ls' ((v.map (tr g)).toList))) →
    W p l e R s m args below meth c H locs cells slots Q (F0 m pc ls (st.map (tr g)))
section EVX
variable {X : Geo → (Nat → Prop) → State → Heap → Prop} {own : String} {cc : ByteArray} {nL fr lo : Nat} {Φ : Option Value → Mem → Prop} {pc : Nat} {ab : List (Option Value)} {st : List Value} {σ : Mem}
theorem ex_w (h : Rng σ → EvX X own cc nL fr lo Φ pc ab st σ) : EvX X own cc nL fr lo Φ pc ab st σ := by
  intro p l e R s m args below meth c g A H0 cells slots Q H locs ls C hX hW
  exact h hW.2.2 p l e R s m args below meth c g A H0 cells slots Q H locs ls C hX hW
theorem ex_ret (v : Option Value) (hv : Φ v σ) (hr : isRet cc pc v) : EvX X own cc nL fr lo Φ pc ab v.toList σ := by
  intro p l e R s m args below meth c g A H0 cells slots Q H locs ls C hX hW hS hL hret
  have := hret v σ pc H locs ls hv hr hW hS
  cases v with
  | none => exact this
  | some w => exact this
theorem ex_ireturn {z : Int32} (hd : decode cc pc = .ok (.ireturn, 1)) (hv : Φ (some (.int z)) σ) : EvX X own cc nL fr lo Φ pc ab [.int z] σ := ex_ret (some (.int z)) hv hd
theorem ex_iconst {n : Int} (hd : decode cc pc = .ok (.iconst n, 1)) (k : EvX X own cc nL fr lo Φ (pc + 1) ab (.int (iI n) :: st) σ) : EvX X own cc nL fr lo Φ pc ab st σ := by
  intro p l e R s m args below meth c g A H0 cells slots Q H locs ls C hX hW hS hL hret
  exact lv_iconst C.1 C.2.1 hd rfl (k p l e R s m args below meth c g A H0 cells slots Q H locs ls C hX hW hS hL hret)
theorem ex_bipush {n : Int} (hd : decode cc pc = .ok (.bipush n, 2)) (hv : (Int8.ofInt n).toInt32 = iI n) (k : EvX X own cc nL fr lo Φ (pc + 2) ab (.int (iI n) :: st) σ) : EvX X own cc nL fr lo Φ pc ab st σ := by
  intro p l e R s m args below meth c g A H0 cells slots Q H locs ls C hX hW hS hL hret
  exact lv_bipush C.1 C.2.1 hd hv (k p l e R s m args below meth c g A H0 cells slots Q H locs ls C hX hW hS hL hret)
theorem ex_iload_n {i : Fin 4} {x : Int32} (hd : decode cc pc = .ok (.iload_n i, 1)) (hl : ab[(i : Nat)]? = some (some (.int x))) (k : EvX X own cc nL fr lo Φ (pc + 1) ab (.int x :: st) σ) : EvX X own cc nL fr lo Φ pc ab st σ := by
  intro p l e R s m args below meth c g A H0 cells slots Q H locs ls C hX hW hS hL hret
  exact lv_iload_n C.1 C.2.1 hd rfl (hL.2.2 _ _ hl) (k p l e R s m args below meth c g A H0 cells slots Q H locs ls C hX hW hS hL hret)
theorem ex_aload_n {i : Fin 4} {x : Nat} (hd : decode cc pc = .ok (.aload_n i, 1)) (hl : ab[(i : Nat)]? = some (some (.ref x))) (k : EvX X own cc nL fr lo Φ (pc + 1) ab (.ref x :: st) σ) : EvX X own cc nL fr lo Φ pc ab st σ := by
  intro p l e R s m args below meth c g A H0 cells slots Q H locs ls C hX hW hS hL hret
  exact lv_aload_n C.1 C.2.1 hd rfl (hL.2.2 _ _ hl) (k p l e R s m args below meth c g A H0 cells slots Q H locs ls C hX hW hS hL hret)
theorem ex_iinc {i : Nat} {n : Int} {z : Int} (hd : decode cc pc = .ok (.iinc i n, 3)) (hl : ab[i]? = some (some (.int (iI z)))) (hn : nolong ab i = true) (hi : i < nL) {ab' : List (Option Value)} (ha : ab.set i (some (.int (iI (z + n)))) = ab') (k : EvX X own cc nL fr lo Φ (pc + 3) ab' st σ) : EvX X own cc nL fr lo Φ pc ab st σ := by
  intro p l e R s m args below meth c g A H0 cells slots Q H locs ls C hX hW hS hL hret
  obtain ⟨j, hj⟩ := List.getElem?_of_mem (lvl_mem (g := g) hl)
  refine lv_iinc C.1 C.2.1 hd hL.has hj (v := iI (z + n)) (iI_add z n) hi rfl (fun ls' h' => ?_)
  subst ha
  exact k p l e R s m args below meth c g A H0 cells slots Q H locs ls' C hX hW hS (LR.store (v := .int (iI (z + n))) hn h') hret
theorem ex_iadd {x y : Int} (hd : decode cc pc = .ok (.iadd, 1)) (k : EvX X own cc nL fr lo Φ (pc + 1) ab (.int (iI (x + y)) :: st) σ) : EvX X own cc nL fr lo Φ pc ab (.int (iI y) :: .int (iI x) :: st) σ := by
  intro p l e R s m args below meth c g A H0 cells slots Q H locs ls C hX hW hS hL hret
  refine lv_iadd C.1 C.2.1 hd ?_
  rw [iI_add]
  exact k p l e R s m args below meth c g A H0 cells slots Q H locs ls C hX hW hS hL hret
theorem ex_isub {x y : Int} (hd : decode cc pc = .ok (.isub, 1)) (k : EvX X own cc nL fr lo Φ (pc + 1) ab (.int (iI (x - y)) :: st) σ) : EvX X own cc nL fr lo Φ pc ab (.int (iI y) :: .int (iI x) :: st) σ := by
  intro p l e R s m args below meth c g A H0 cells slots Q H locs ls C hX hW hS hL hret
  refine lv_isub C.1 C.2.1 hd ?_
  rw [iI_sub]
  exact k p l e R s m args below meth c g A H0 cells slots Q H locs ls C hX hW hS hL hret
theorem ex_iand {x y : Int} (hd : decode cc pc = .ok (.iand, 1)) (k : EvX X own cc nL fr lo Φ (pc + 1) ab (.int (iI (band x y)) :: st) σ) : EvX X own cc nL fr lo Φ pc ab (.int (iI y) :: .int (iI x) :: st) σ := by
  intro p l e R s m args below meth c g A H0 cells slots Q H locs ls C hX hW hS hL hret
  refine lv_iand C.1 C.2.1 hd ?_
  rw [← iI_of (iI x &&& iI y)]
  exact k p l e R s m args below meth c g A H0 cells slots Q H locs ls C hX hW hS hL hret
theorem ex_land {x y : Int64} (hd : decode cc pc = .ok (.land, 1)) (k : EvX X own cc nL fr lo Φ (pc + 1) ab (.long (x &&& y) :: st) σ) : EvX X own cc nL fr lo Φ pc ab (.long y :: .long x :: st) σ := by
  intro p l e R s m args below meth c g A H0 cells slots Q H locs ls C hX hW hS hL hret
  exact lv_land C.1 C.2.1 hd (k p l e R s m args below meth c g A H0 cells slots Q H locs ls C hX hW hS hL hret)
theorem ex_lor {x y : Int64} (hd : decode cc pc = .ok (.lor, 1)) (k : EvX X own cc nL fr lo Φ (pc + 1) ab (.long (x ||| y) :: st) σ) : EvX X own cc nL fr lo Φ pc ab (.long y :: .long x :: st) σ := by
  intro p l e R s m args below meth c g A H0 cells slots Q H locs ls C hX hW hS hL hret
  exact lv_lor C.1 C.2.1 hd (k p l e R s m args below meth c g A H0 cells slots Q H locs ls C hX hW hS hL hret)
theorem ex_lshl {x v : Int64} {y : Int32} (hd : decode cc pc = .ok (.lshl, 1)) (hv : x <<< (y.toInt64 &&& 63) = v) (k : EvX X own cc nL fr lo Φ (pc + 1) ab (.long v :: st) σ) : EvX X own cc nL fr lo Φ pc ab (.int y :: .long x :: st) σ := by
  intro p l e R s m args below meth c g A H0 cells slots Q H locs ls C hX hW hS hL hret
  exact lv_lshl C.1 C.2.1 hd hv (k p l e R s m args below meth c g A H0 cells slots Q H locs ls C hX hW hS hL hret)
theorem ex_i2l {z : Int} (hd : decode cc pc = .ok (.i2l, 1)) (hz : inR z) (k : EvX X own cc nL fr lo Φ (pc + 1) ab (.long (lI z) :: st) σ) : EvX X own cc nL fr lo Φ pc ab (.int (iI z) :: st) σ := by
  intro p l e R s m args below meth c g A H0 cells slots Q H locs ls C hX hW hS hL hret
  refine lv_i2l (v := lI z) C.1 C.2.1 hd ?_ (k p l e R s m args below meth c g A H0 cells slots Q H locs ls C hX hW hS hL hret)
  apply Int64.toInt_inj.mp
  rw [Int32.toInt_toInt64, iI_toInt hz.1 hz.2, lI_toInt (by omega) (by omega)]
theorem ex_goto {off : Int} {tgt : Nat} (hd : decode cc pc = .ok (.goto off, 3)) (ht : (pc : Int) + off = (tgt : Int)) (k : EvX X own cc nL fr lo Φ tgt ab st σ) : EvX X own cc nL fr lo Φ pc ab st σ := by
  intro p l e R s m args below meth c g A H0 cells slots Q H locs ls C hX hW hS hL hret
  exact lv_goto C.1 C.2.1 hd ht (k p l e R s m args below meth c g A H0 cells slots Q H locs ls C hX hW hS hL hret)
theorem ex_if_eq {x : Int} {off : Int} {tgt : Nat} (hd : decode cc pc = .ok (.ifCond .eq off, 3)) (ht : (pc : Int) + off = (tgt : Int)) (hx : inR x) (kt : x = 0 → EvX X own cc nL fr lo Φ tgt ab st σ) (kf : ¬ (x = 0) → EvX X own cc nL fr lo Φ (pc + 3) ab st σ) : EvX X own cc nL fr lo Φ pc ab (.int (iI x) :: st) σ := by
  intro p l e R s m args below meth c g A H0 cells slots Q H locs ls C hX hW hS hL hret
  exact lv_if_eq C.1 C.2.1 hd ht (fun q => kt ((iI_eq hx inR0).mp q) p l e R s m args below meth c g A H0 cells slots Q H locs ls C hX hW hS hL hret) (fun q => kf (fun z => q ((iI_eq hx inR0).mpr z)) p l e R s m args below meth c g A H0 cells slots Q H locs ls C hX hW hS hL hret)
theorem ex_icmp_gt {x y : Int} {off : Int} {tgt : Nat} (hd : decode cc pc = .ok (.if_icmp .gt off, 3)) (ht : (pc : Int) + off = (tgt : Int)) (hx : inR x) (hy : inR y) (kt : y < x → EvX X own cc nL fr lo Φ tgt ab st σ) (kf : ¬ (y < x) → EvX X own cc nL fr lo Φ (pc + 3) ab st σ) : EvX X own cc nL fr lo Φ pc ab (.int (iI y) :: .int (iI x) :: st) σ := by
  intro p l e R s m args below meth c g A H0 cells slots Q H locs ls C hX hW hS hL hret
  exact lv_icmp_gt C.1 C.2.1 hd ht (fun q => kt ((iI_lt hy hx).mp q) p l e R s m args below meth c g A H0 cells slots Q H locs ls C hX hW hS hL hret) (fun q => kf (fun z => q ((iI_lt hy hx).mpr z)) p l e R s m args below meth c g A H0 cells slots Q H locs ls C hX hW hS hL hret)
theorem ex_ldc2 {idx : Nat} {v : Int64} {z : Int} (hd : decode cc pc = .ok (.ldc2_w idx, 3)) (hw : Cond.constantLong own idx v ∈ G) (hz : v = lI z) (k : EvX X own cc nL fr lo Φ (pc + 3) ab (.long (lI z) :: st) σ) : EvX X own cc nL fr lo Φ pc ab st σ := by
  intro p l e R s m args below meth c g A H0 cells slots Q H locs ls C hX hW hS hL hret
  subst hz
  exact lv_ldc2 C.1 C.2.1 C.2.2.2.1 (C.2.2.2.2.1 _ hw) hd (k p l e R s m args below meth c g A H0 cells slots Q H locs ls C hX hW hS hL hret)
theorem ex_tableOut {dflt lo' hi' : Int} {offs : Array Int} {len tgt : Nat} {z : Int} (hd : decode cc pc = .ok (.tableswitch dflt lo' hi' offs, len)) (hz : inR z) (h : z < lo' ∨ hi' < z) (ht : (pc : Int) + dflt = (tgt : Int)) (k : EvX X own cc nL fr lo Φ tgt ab st σ) : EvX X own cc nL fr lo Φ pc ab (.int (iI z) :: st) σ := by
  intro p l e R s m args below meth c g A H0 cells slots Q H locs ls C hX hW hS hL hret
  exact lv_tableOut C.1 C.2.1 hd (by rw [iI_toInt hz.1 hz.2]; exact h) ht (k p l e R s m args below meth c g A H0 cells slots Q H locs ls C hX hW hS hL hret)
theorem ex_tableIn {dflt lo' hi' off : Int} {offs : Array Int} {len tgt : Nat} {z : Int} (hd : decode cc pc = .ok (.tableswitch dflt lo' hi' offs, len)) (hz : inR z) (h1 : ¬ z < lo') (h2 : ¬ hi' < z) (ho : offs[(z - lo').toNat]? = some off) (ht : (pc : Int) + off = (tgt : Int)) (k : EvX X own cc nL fr lo Φ tgt ab st σ) : EvX X own cc nL fr lo Φ pc ab (.int (iI z) :: st) σ := by
  intro p l e R s m args below meth c g A H0 cells slots Q H locs ls C hX hW hS hL hret
  exact lv_tableIn C.1 C.2.1 hd (by rw [iI_toInt hz.1 hz.2]; exact h1) (by rw [iI_toInt hz.1 hz.2]; exact h2) (by rw [iI_toInt hz.1 hz.2]; exact ho) ht (k p l e R s m args below meth c g A H0 cells slots Q H locs ls C hX hW hS hL hret)
end EVX
section CALLX
variable {X : Geo → (Nat → Prop) → State → Heap → Prop} {own : String} {cc : ByteArray} {nL fr lo : Nat} {Φ : Option Value → Mem → Prop} {pc : Nat} {ab : List (Option Value)} {st rest : List Value} {σ : Mem}
variable {p : Program} {l : Launch} {e : Env} {R : Room} {s : State} {m : MethodId} {args : Array Value} {below : List Frame} {meth : Method} {c0 : Code} {g : Geo} {A : Nat → Prop} {H0 H : Heap} {cells slots : Nat} {Q : State → Prop} {locs : List Loc} {ls : Array Slot}
theorem ex_after {Ψ : Option Value → Mem → Prop} {a : Array Value} {st0 : List Value} (C : Cx own cc nL fr lo p R s m args c0 g A H0 cells slots) (hX : X g A s H0) (hW : Wd g σ H) (hS : va_S A H0 H locs) (hL : LR g ls nL ab)
    (hret : ∀ (v : Option Value) (σ' : Mem) (pc' : Nat) (H' : Heap) (locs' : List Loc) (ls' : Array Slot), Φ v σ' → isRet cc pc' v → Wd g σ' H' → va_S A H0 H' locs' → W p l e R s m args below meth c0 H' locs' cells slots Q (F0 m pc' ls' ((v.map (tr g)).toList)))
    (hr : va_Run p l e R s m args below meth c0 H locs cells slots 0 0 (F0 m pc ls st0) (rest.map (tr g)) (QcG g Ψ a) (gA g))
    (kk : ∀ v σ', Ψ v σ' → EvX X own cc nL fr lo Φ (pc + 3) ab (v.toList ++ rest) σ') : W p l e R s m args below meth c0 H locs cells slots Q (F0 m pc ls st0) := by
  intro T hT X
  obtain ⟨v, st₀, t, T', L, h0, X', hL2, e1, e2, ⟨⟨w, σ', hv, hΨ, hW'⟩, hz, hk⟩, go⟩ := hr T hT X
  have hv' : v = w.map (tr g) := Outcome.returned.inj hv
  subst hv'
  rw [h0] at hz hk
  have hS' : va_S A H0 T'.heap (locs ++ L) := by
    refine ⟨Nat.le_trans hS.1 (by rw [e1]; exact hz), fun q h1 h2 => ?_, fun q hq => ?_⟩
    · rw [e1, hk q (Nat.lt_of_lt_of_le h1 hS.1) (fun z => h2 ?_)]
      · exact hS.2.1 q h1 h2
      · obtain ⟨k, hk1, rfl⟩ := z
        exact C.2.2.2.2.2.2.1 k hk1
    · rcases List.mem_append.mp hq with h | h
      · exact hS.2.2 q h
      · obtain ⟨k, hk1, hk2⟩ := hL2 q h
        rw [hk2]
        exact C.2.2.2.2.2.2.1 k hk1
  obtain ⟨t2, a1, b1⟩ := kk w σ' hΨ p l e R s m args below meth c0 g A H0 cells slots Q T'.heap (locs ++ L) ls C hX (by rw [e1]; exact hW') hS' hL hret T' rfl X'
  refine ⟨t2, go t2 ?_, b1⟩
  have : (w.toList ++ rest).map (tr g) = (w.map (tr g)).toList ++ rest.map (tr g) := by cases w <;> simp
  rw [this] at a1
  exact a1
theorem ex_callV {y : MethodName} {cc' : ByteArray} {nL' fr' lo' n c ci idx : Nat} {ret : Option FieldType} {av : List Value} {Ψ : Option Value → Mem → Prop} {T : u_T} {N : Nat} (hd : decode cc pc = .ok (.invokevirtual idx, 3)) (hK : KV own idx y cc' nL' ret n) (hst : st = av.reverse ++ .ref c :: rest) (hsh : shapes[c]? = some (.inl ci)) (hcl : vwCl[ci]? = some (y.cls, T, N)) (hn : av.length = n) (hroom : fr' + 1 ≤ fr ∧ 8 + (nL' + 11) + lo' ≤ lo) (hcat : (rest.map fun v => v.category).sum ≤ 8)
    (hC : Con y cc' nL' ret fr' lo' (.ref c :: av) σ Ψ) (kk : ∀ v σ', Ψ v σ' → EvX X own cc nL fr lo Φ (pc + 3) ab (v.toList ++ rest) σ') : EvX X own cc nL fr lo Φ pc ab st σ := by
  intro p l e R s m args below meth c0 g A H0 cells slots Q H locs ls C hX hW hS hL hret
  obtain ⟨k1, k2, k3, k4, k5, k6, k7, k8⟩ := hK
  have hts := C.2.2.2.2.1
  have hat := cellsG_at g σ (shapes_lt hsh)
  rw [ent_o hsh] at hat
  have hgood : GoodIn G (wsV own idx y.cls y (Cond.code y cc' nL' ret :: G)) := by
    intro w hw
    have hw' : w ∈ G := by
      unfold wsV at hw
      simp only [List.cons_append, List.nil_append, List.mem_cons] at hw
      rcases hw with h | h | h | h | h | h
      · rw [h]; exact k1
      · rw [h]; exact k2
      · rw [h]; exact k3
      · rw [h]; exact k4
      · rw [h]; exact k5
      · exact h
    exact ⟨hw', good_of_word (memG' hw').2⟩
  refine ex_after (a := (Value.ref (g.1 c) :: av.map (tr g)).toArray) C hX hW hS hL hret ?_ kk
  subst hst
  refine va_runV (C := y.cls) (b := g.1 c) (As := av.map (tr g)) (rest := rest.map (tr g)) ⟨C.1, C.2.1, C.2.2.1, C.2.2.2.1, hts⟩ (hC l g) (cwV n hts hgood rfl rfl rfl ⟨rfl, k6, k7, k8⟩ ⟨?_, ?_⟩) ⟨BpG_blind g σ _, va_recv C.2.2.2.2.2.1.1 hW.1 hcl hat, fun U hU hWU => ⟨rfl, by rw [hU]; exact hW, va_K.moved hWU.alike C.2.2.2.2.2.1.1, by rw [hU]; exact C.2.2.2.2.2.1.2.to hWU hS (fun q hq => by obtain ⟨k, hk, rfl⟩ := hq; exact C.2.2.2.2.2.2.1 k hk)⟩⟩ rfl (by rw [List.length_map]; exact hn) hL.1 ?_ ?_ hd ⟨by have := C.2.2.2.2.2.2.2.2.2.1; omega, by have := C.2.2.2.2.2.2.2.2.2.2; omega⟩
  · have := C.2.2.2.2.2.2.2.1
    show fr' + 1 ≤ _
    omega
  · have := C.2.2.2.2.2.2.2.2.1
    show 8 + (nL' + 11) + lo' ≤ _
    omega
  · show (av.reverse ++ .ref c :: rest).map (tr g) = _
    rw [List.map_append, List.map_reverse]
    rfl
  · refine lv_room ?_
    rw [tr_cats]
    exact hcat
end CALLX
/-- the script: L ints xs, at the place 3000, which nobody writes -/
def Scr (L : Nat) (xs : Nat → Int32) : Geo → (Nat → Prop) → State → Heap → Prop := fun g A s H0 => va_X (g.1 3000) L xs s H0 ∧ g.1 3000 < H0.size ∧ ¬ A (g.1 3000)
section SCR
variable {L : Nat} {xs : Nat → Int32} {own : String} {cc : ByteArray} {nL fr lo : Nat} {Φ : Option Value → Mem → Prop} {pc : Nat} {ab : List (Option Value)} {st : List Value} {σ : Mem}
theorem ex_sld {k : Nat} (hd : decode cc pc = .ok (.iaload, 1)) (hk : k < L) (hL : L ≤ 4096) (kk : EvX (Scr L xs) own cc nL fr lo Φ (pc + 1) ab (.int (iI (xs k).toInt) :: st) σ) : EvX (Scr L xs) own cc nL fr lo Φ pc ab (.int (iI (k : Nat)) :: .ref 3000 :: st) σ := by
  intro p l e R s m args below meth c g A H0 cells slots Q H locs ls C hX hW hS hL9 hret
  have e1 : (iI ((k : Nat) : Int)).toNatClampNeg = k := by rw [iI_clamp (by omega) (by omega)]; omega
  refine va_sld C.1 C.2.1 hX.1 hX.2.1 hX.2.2 hS (iI_vin (by omega) (by omega) (by omega)) hd ?_
  rw [e1]
  have q := kk p l e R s m args below meth c g A H0 cells slots Q H locs ls C hX hW hS hL9 hret
  rw [iI_of] at q
  exact q
theorem ex_slen (hd : decode cc pc = .ok (.arraylength, 1)) (kk : EvX (Scr L xs) own cc nL fr lo Φ (pc + 1) ab (.int (iI (L : Nat)) :: st) σ) : EvX (Scr L xs) own cc nL fr lo Φ pc ab (.ref 3000 :: st) σ := by
  intro p l e R s m args below meth c g A H0 cells slots Q H locs ls C hX hW hS hL9 hret
  refine va_slen C.1 C.2.1 hX.1 hX.2.1 hX.2.2 hS hd ?_
  have q := kk p l e R s m args below meth c g A H0 cells slots Q H locs ls C hX hW hS hL9 hret
  rw [iI_nat] at q
  exact q
end SCR
/-- two equal ints -/
theorem ex_same {X : Geo → (Nat → Prop) → State → Heap → Prop} {own : String} {cc : ByteArray} {nL fr lo : Nat} {Φ : Option Value → Mem → Prop} {pc : Nat} {ab : List (Option Value)} {st : List Value} {σ : Mem} {x : Int32} {off : Int} {tgt : Nat} (hd : decode cc pc = .ok (.if_icmp .eq off, 3)) (ht : (pc : Int) + off = (tgt : Int)) (kt : EvX X own cc nL fr lo Φ tgt ab st σ) : EvX X own cc nL fr lo Φ pc ab (.int x :: .int x :: st) σ := by
  intro p l e R s m args below meth c g A H0 cells slots Q H locs ls C hX hW hS hL hret
  exact lv_icmp_eq C.1 C.2.1 hd ht (fun _ => kt p l e R s m args below meth c g A H0 cells slots Q H locs ls C hX hW hS hL hret) (fun q => absurd rfl q)
