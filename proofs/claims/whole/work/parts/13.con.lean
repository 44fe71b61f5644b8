/-! contracts, and calls by them -/
def QcG (g : Geo) (Φ : Option Value → Mem → Prop) : Array Value → State → Outcome → State → Prop := fun _ st oc t => (∃ (v : Option Value) (σ' : Mem), oc = .returned (v.map (tr g)) ∧ Φ v σ' ∧ Wd g σ' t.heap) ∧ va_F (gA g) st t
def BpG (g : Geo) (σ : Mem) : State → Prop := fun U => Wd g σ U.heap ∧ va_K g.2.1 vwCl (tysG g) U ∧ XA g (gA g) U U.heap
/-- method y, of these bytes, called with av in the memory σ: it returns, with an answer and a memory that Φ allows -/
def Con (y : MethodName) (cc : ByteArray) (nL : Nat) (ret : Option FieldType) (fr lo : Nat) (av : List Value) (σ : Mem) (Φ : Option Value → Mem → Prop) : Prop :=
  ∀ (l : Launch) (g : Geo), Met l y (Cond.code y cc nL ret :: G) { frames := fr, cells := 0, slots := 0, locals := lo } (va_Pc (av.map (tr g)) (BpG g σ)) (QcG g Φ) 0 0 (gA g)
def okRet (ret : Option FieldType) (v : Option Value) : Prop := match v with
  | none => ret = none
  | some (.int x) => ∃ ty, ret = some ty ∧ narrow ty (.int x) = .int x
  | some (.long _) => ret = some .long
  | _ => False
def entA : List Value → List (Option Value)
  | [] => []
  | v :: vs => if v.category = 2 then some v :: none :: entA vs else some v :: entA vs
def entL (av : List Value) (nL : Nat) : List (Option Value) := entA av ++ List.replicate (nL - (entA av).length) none
theorem entA_args (g : Geo) : ∀ (vs : List Value) (i j : Nat) (v : Value), (entA vs)[j]? = some (some v) → (i + j, tr g v) ∈ lv_args i (vs.map (tr g))
  | [], i, j, v, h => by simp [entA] at h
  | w :: vs, i, j, v, h => by
    show (i + j, tr g v) ∈ (i, tr g w) :: lv_args (if (tr g w).category = 2 then i + 2 else i + 1) (vs.map (tr g))
    rw [tr_cat]
    unfold entA at h
    by_cases hc : w.category = 2
    · rw [if_pos hc] at h
      rw [if_pos hc]
      match j, h with
      | 0, h => cases h; exact List.mem_cons_self
      | 1, h => simp at h
      | j + 2, h =>
        have := entA_args g vs (i + 2) j v (by simpa using h)
        rw [show i + (j + 2) = i + 2 + j by omega]
        exact List.mem_cons_of_mem _ this
    · rw [if_neg hc] at h
      rw [if_neg hc]
      match j, h with
      | 0, h => cases h; exact List.mem_cons_self
      | j + 1, h =>
        have := entA_args g vs (i + 1) j v (by simpa using h)
        rw [show i + (j + 1) = i + 1 + j by omega]
        exact List.mem_cons_of_mem _ this
theorem entL_LR {g : Geo} {av : List Value} {nL : Nat} (h : (lg_sl (av.map (tr g))).length ≤ nL) : LR g ((lg_sl (av.map (tr g)) ++ List.replicate (nL - (lg_sl (av.map (tr g))).length) Slot.unset).toArray) nL (entL av nL) := by
  have hl := lv_entry (av.map (tr g)) (n := nL) h
  refine ⟨hl.1, hl.2.1, fun i v hi => ?_⟩
  refine hl.2.2 (i, tr g v) ?_
  have hi' : (entA av)[i]? = some (some v) := by
    unfold entL at hi
    by_cases hlt : i < (entA av).length
    · rwa [List.getElem?_append_left hlt] at hi
    · rw [List.getElem?_append_right (by omega), List.getElem?_replicate] at hi
      split at hi <;> cases hi
  have := entA_args g av 0 i v hi'
  rwa [Nat.zero_add] at this
theorem lg_sl_len (g : Geo) (av : List Value) : (lg_sl (av.map (tr g))).length = (entA av).length := by
  induction av with
  | nil => rfl
  | cons v vs ih =>
    show (lg_sl (tr g v :: vs.map (tr g))).length = _
    unfold lg_sl entA
    rw [List.flatMap_cons, List.length_append, tr_cat]
    have ih' : (List.flatMap (fun v => if v.category = 2 then [Slot.val v, Slot.second] else [Slot.val v]) (vs.map (tr g))).length = (entA vs).length := ih
    rw [ih']
    split <;> simp <;> omega
theorem con_of {y : MethodName} {cc : ByteArray} {nL : Nat} {ret : Option FieldType} {fr lo : Nat} {av : List Value} {σ : Mem} {Φ : Option Value → Mem → Prop} {own : String} (hy : plainName y.cls = true) (ho : y.cls = own) (hlen : (entA av).length ≤ nL) (hret : ∀ v σ', Φ v σ' → okRet ret v)
    (h : Ev own cc nL fr lo Φ 0 (entL av nL) [] σ) : Con y cc nL ret fr lo av σ Φ := by
  intro l g
  refine Met.ofW (cc := cc) (maxL := nL) (ret := ret) hy rfl ?_
  intro p e s m args below meth c s₁ B hml hP
  obtain ⟨rfl, hW, hK, hXA⟩ := hP
  have hts : ∀ w ∈ (Cond.code y cc nL ret :: G), w.before (av.map (tr g)).toArray s = true := atoms_spec (ws := Cond.code y cc nL ret :: G) B.pre
  have hown : s.vm.findClass own = some m.cls := by rw [← ho]; exact findClass_of_methodNamed B.named
  rw [lg_entry_eq]
  have hlen' : (lg_sl (av.map (tr g))).length ≤ nL := by rw [lg_sl_len]; exact hlen
  refine h p l e _ s m _ below meth c g (gA g) s.heap 0 0 _ s.heap [] _ ⟨B.exec, B.bytes, hml, hown, fun w hw => hts w (List.mem_cons_of_mem _ hw), ⟨hK, hXA⟩, fun k hk => ⟨k, hk, rfl⟩, Nat.le_refl _, Nat.le_refl _, Nat.zero_le _, Nat.zero_le _⟩ hW va_S.rf (entL_LR hlen') ?_
  intro v σ' pc' H' locs' ls' hΦ hr hW' hS'
  have hq : ∀ t : State, t.heap = H' → s.WarmedH t.vm → QcG g Φ (av.map (tr g)).toArray s (.returned (v.map (tr g))) t := fun t ht _ => ⟨⟨v, σ', rfl, hΦ, by rw [ht]; exact hW'⟩, hS'.F ht⟩
  have ho2 := hret v σ' hΦ
  match v, hr, hq, ho2 with
  | none, hr, hq, ho2 => exact W.vret B.exec B.bytes (B.returns.trans ho2) hq hS'.2.2 hr
  | some (.int x), hr, hq, ho2 =>
    obtain ⟨ty, h1, h2⟩ := ho2
    exact W.zret B.exec B.bytes (B.returns.trans h1) h2 hq hS'.2.2 hr
  | some (.long x), hr, hq, ho2 => exact W.lret B.exec B.bytes (B.returns.trans ho2) hq hS'.2.2 hr
/-- fewer outcomes, or more -/
theorem BpG_blind (g : Geo) (σ : Mem) (av : List Value) : FrameBlind (va_Pc av (BpG g σ)) := by
  intro a U fr mk h
  exact ⟨h.1, h.2.1, va_K.moved (u := U) (U := U.calling fr mk a) (Vm.Alike.refl U.vm) h.2.2.1, XA.blind (U := U) (U' := U.calling fr mk a) h.2.2.2 rfl⟩
theorem GinG {w : Cond} (h : w ∈ G) : w ∈ G := h
section CALL
variable {own : String} {cc : ByteArray} {nL fr lo : Nat} {Φ : Option Value → Mem → Prop} {pc : Nat} {ab : List (Option Value)} {st rest : List Value} {σ : Mem}
variable {p : Program} {l : Launch} {e : Env} {R : Room} {s : State} {m : MethodId} {args : Array Value} {below : List Frame} {meth : Method} {c0 : Code} {g : Geo} {A : Nat → Prop} {H0 H : Heap} {cells slots : Nat} {Q : State → Prop} {locs : List Loc} {ls : Array Slot}
/-- what follows a call, by va_Run -/
theorem ev_after {Ψ : Option Value → Mem → Prop} {a : Array Value} {st0 : List Value} (C : Cx own cc nL fr lo p R s m args c0 g A H0 cells slots) (hW : Wd g σ H) (hS : va_S A H0 H locs) (hL : LR g ls nL ab)
    (hret : ∀ (v : Option Value) (σ' : Mem) (pc' : Nat) (H' : Heap) (locs' : List Loc) (ls' : Array Slot), Φ v σ' → isRet cc pc' v → Wd g σ' H' → va_S A H0 H' locs' → W p l e R s m args below meth c0 H' locs' cells slots Q (F0 m pc' ls' ((v.map (tr g)).toList)))
    (hr : va_Run p l e R s m args below meth c0 H locs cells slots 0 0 (F0 m pc ls st0) (rest.map (tr g)) (QcG g Ψ a) (gA g))
    (kk : ∀ v σ', Ψ v σ' → Ev own cc nL fr lo Φ (pc + 3) ab (v.toList ++ rest) σ') : W p l e R s m args below meth c0 H locs cells slots Q (F0 m pc ls st0) := by
  intro T hT X
  obtain ⟨v, st₀, t, T', L, h0, X', hL2, e1, e2, ⟨⟨w, σ', hv, hΨ, hW'⟩, hz, hk⟩, go⟩ := hr T hT X
  have hv' : v = w.map (tr g) := Outcome.returned.inj hv
  subst hv'
  rw [h0] at hz hk
  have hS' : va_S A H0 T'.heap (locs ++ L) := by
    refine ⟨Nat.le_trans hS.1 (by rw [e1]; exact hz), fun q h1 h2 => ?_, fun q hq => ?_⟩
    · rw [e1, hk q (Nat.lt_of_lt_of_le h1 hS.1) (fun z => h2 ?_)]
      · exact hS.2.1 q h1 h2
      · obtain ⟨k, hk1, rfl⟩ := z
        exact C.2.2.2.2.2.2.1 k hk1
    · rcases List.mem_append.mp hq with h | h
      · exact hS.2.2 q h
      · obtain ⟨k, hk1, hk2⟩ := hL2 q h
        rw [hk2]
        exact C.2.2.2.2.2.2.1 k hk1
  obtain ⟨t2, a1, b1⟩ := kk w σ' hΨ p l e R s m args below meth c0 g A H0 cells slots Q T'.heap (locs ++ L) ls C (by rw [e1]; exact hW') hS' hL hret T' rfl X'
  refine ⟨t2, go t2 ?_, b1⟩
  have : (w.toList ++ rest).map (tr g) = (w.map (tr g)).toList ++ rest.map (tr g) := by cases w <;> simp
  rw [this] at a1
  exact a1
/-- what the tables say of a call of an object's method -/
def KV (own : String) (idx : Nat) (y : MethodName) (cc : ByteArray) (nL : Nat) (ret : Option FieldType) (n : Nat) : Prop := Cond.methodLink own idx y ∈ G ∧ Cond.instanceMethod y ∈ G ∧ Cond.selects y.cls y y ∈ G ∧ Cond.initialized y.cls ∈ G ∧ Cond.code y cc nL ret ∈ G ∧ y.cls ≠ "java/lang/invoke/MethodHandle" ∧ y.cls ≠ "java/lang/invoke/VarHandle" ∧ (parseMethodDescriptor y.desc).map (fun d => d.parameters.length) = some n
theorem ev_callV {y : MethodName} {cc' : ByteArray} {nL' fr' lo' n c ci idx : Nat} {ret : Option FieldType} {av : List Value} {Ψ : Option Value → Mem → Prop} {T : u_T} {N : Nat} (hd : decode cc pc = .ok (.invokevirtual idx, 3)) (hK : KV own idx y cc' nL' ret n) (hst : st = av.reverse ++ .ref c :: rest) (hsh : shapes[c]? = some (.inl ci)) (hcl : vwCl[ci]? = some (y.cls, T, N)) (hn : av.length = n) (hroom : fr' + 1 ≤ fr ∧ 8 + (nL' + 11) + lo' ≤ lo) (hcat : (rest.map fun v => v.category).sum ≤ 8)
    (hC : Con y cc' nL' ret fr' lo' (.ref c :: av) σ Ψ) (kk : ∀ v σ', Ψ v σ' → Ev own cc nL fr lo Φ (pc + 3) ab (v.toList ++ rest) σ') : Ev own cc nL fr lo Φ pc ab st σ := by
  intro p l e R s m args below meth c0 g A H0 cells slots Q H locs ls C hW hS hL hret
  obtain ⟨k1, k2, k3, k4, k5, k6, k7, k8⟩ := hK
  have hts := C.2.2.2.2.1
  have hat := cellsG_at g σ (shapes_lt hsh)
  rw [ent_o hsh] at hat
  have hgood : GoodIn G (wsV own idx y.cls y (Cond.code y cc' nL' ret :: G)) := by
    intro w hw
    have hw' : w ∈ G := by
      unfold wsV at hw
      simp only [List.cons_append, List.nil_append, List.mem_cons] at hw
      rcases hw with h | h | h | h | h | h
      · rw [h]; exact k1
      · rw [h]; exact k2
      · rw [h]; exact k3
      · rw [h]; exact k4
      · rw [h]; exact k5
      · exact h
    exact ⟨hw', good_of_word (memG' hw').2⟩
  refine ev_after (a := (Value.ref (g.1 c) :: av.map (tr g)).toArray) C hW hS hL hret ?_ kk
  subst hst
  refine va_runV (C := y.cls) (b := g.1 c) (As := av.map (tr g)) (rest := rest.map (tr g)) ⟨C.1, C.2.1, C.2.2.1, C.2.2.2.1, hts⟩ (hC l g) (cwV n hts hgood rfl rfl rfl ⟨rfl, k6, k7, k8⟩ ⟨?_, ?_⟩) ⟨BpG_blind g σ _, va_recv C.2.2.2.2.2.1.1 hW.1 hcl hat, fun U hU hWU => ⟨rfl, by rw [hU]; exact hW, va_K.moved hWU.alike C.2.2.2.2.2.1.1, by rw [hU]; exact C.2.2.2.2.2.1.2.to hWU hS (fun q hq => by obtain ⟨k, hk, rfl⟩ := hq; exact C.2.2.2.2.2.2.1 k hk)⟩⟩ rfl (by rw [List.length_map]; exact hn) hL.1 ?_ ?_ hd ⟨by have := C.2.2.2.2.2.2.2.2.2.1; omega, by have := C.2.2.2.2.2.2.2.2.2.2; omega⟩
  · have := C.2.2.2.2.2.2.2.1
    show fr' + 1 ≤ _
    omega
  · have := C.2.2.2.2.2.2.2.2.1
    show 8 + (nL' + 11) + lo' ≤ _
    omega
  · show (av.reverse ++ .ref c :: rest).map (tr g) = _
    rw [List.map_append, List.map_reverse]
    rfl
  · refine lv_room ?_
    rw [tr_cats]
    exact hcat
/-- of a static method: of its own class, or of another that is begun -/
def KS (own : String) (idx : Nat) (y : MethodName) (cc : ByteArray) (nL : Nat) (ret : Option FieldType) (n : Nat) : Prop := Cond.methodLink own idx y ∈ G ∧ Cond.static y ∈ G ∧ Cond.initialized y.cls ∈ G ∧ Cond.code y cc nL ret ∈ G ∧ y.cls ≠ "java/lang/invoke/MethodHandle" ∧ y.cls ≠ "java/lang/invoke/VarHandle" ∧ (parseMethodDescriptor y.desc).map (fun d => d.parameters.length) = some n
theorem ev_callS {y : MethodName} {cc' : ByteArray} {nL' fr' lo' n idx : Nat} {ret : Option FieldType} {av : List Value} {Ψ : Option Value → Mem → Prop} (hd : decode cc pc = .ok (.invokestatic idx, 3)) (hK : KS own idx y cc' nL' ret n) (hst : st = av.reverse ++ rest) (hn : av.length = n) (hroom : fr' + 1 ≤ fr ∧ 8 + (nL' + 11) + lo' ≤ lo) (hcat : (rest.map fun v => v.category).sum ≤ 8)
    (hC : Con y cc' nL' ret fr' lo' av σ Ψ) (kk : ∀ v σ', Ψ v σ' → Ev own cc nL fr lo Φ (pc + 3) ab (v.toList ++ rest) σ') : Ev own cc nL fr lo Φ pc ab st σ := by
  intro p l e R s m args below meth c0 g A H0 cells slots Q H locs ls C hW hS hL hret
  obtain ⟨k1, k2, k4, k5, k6, k7, k8⟩ := hK
  have hts := C.2.2.2.2.1
  have hgood : GoodIn G (Cond.code y cc' nL' ret :: G) := goodG (fun _ h => h) k5
  refine ev_after (a := (av.map (tr g)).toArray) C hW hS hL hret ?_ kk
  subst hst
  refine va_runS (As := av.map (tr g)) (rest := rest.map (tr g)) ⟨C.1, C.2.1, C.2.2.1, C.2.2.2.1, hts⟩ (hC l g) ⟨callB_of n hts hgood rfl rfl rfl (hts _ k4) (hts _ k1) ⟨k6, k7, k8⟩ ⟨?_, ?_⟩, hts _ k2⟩ ⟨BpG_blind g σ _, fun U hU hWU => ⟨rfl, by rw [hU]; exact hW, va_K.moved hWU.alike C.2.2.2.2.2.1.1, by rw [hU]; exact C.2.2.2.2.2.1.2.to hWU hS (fun q hq => by obtain ⟨k, hk, rfl⟩ := hq; exact C.2.2.2.2.2.2.1 k hk)⟩⟩ rfl (by rw [List.length_map]; exact hn) hL.1 ?_ ?_ hd ⟨by have := C.2.2.2.2.2.2.2.2.2.1; omega, by have := C.2.2.2.2.2.2.2.2.2.2; omega⟩
  · have := C.2.2.2.2.2.2.2.1
    show fr' + 1 ≤ _
    omega
  · have := C.2.2.2.2.2.2.2.2.1
    show 8 + (nL' + 11) + lo' ≤ _
    omega
  · show (av.reverse ++ rest).map (tr g) = _
    rw [List.map_append, List.map_reverse]
  · refine lv_room ?_
    rw [tr_cats]
    exact hcat
/-- of a nest mate's private static method -/
def KN (own : String) (idx : Nat) (y : MethodName) (host : String) (cc : ByteArray) (nL : Nat) (ret : Option FieldType) (n : Nat) : Prop := (own, idx, y, host) ∈ nestL ∧ Cond.static y ∈ G ∧ Cond.initialized y.cls ∈ G ∧ Cond.code y cc nL ret ∈ G ∧ y.cls ≠ "java/lang/invoke/MethodHandle" ∧ y.cls ≠ "java/lang/invoke/VarHandle" ∧ (parseMethodDescriptor y.desc).map (fun d => d.parameters.length) = some n
theorem ev_callN {y : MethodName} {host : String} {cc' : ByteArray} {nL' fr' lo' n idx : Nat} {ret : Option FieldType} {av : List Value} {Ψ : Option Value → Mem → Prop} (hd : decode cc pc = .ok (.invokestatic idx, 3)) (hK : KN own idx y host cc' nL' ret n) (hst : st = av.reverse ++ rest) (hn : av.length = n) (hroom : fr' + 1 ≤ fr ∧ 8 + (nL' + 11) + lo' ≤ lo) (hcat : (rest.map fun v => v.category).sum ≤ 8)
    (hC : Con y cc' nL' ret fr' lo' av σ Ψ) (kk : ∀ v σ', Ψ v σ' → Ev own cc nL fr lo Φ (pc + 3) ab (v.toList ++ rest) σ') : Ev own cc nL fr lo Φ pc ab st σ := by
  intro p l e R s m args below meth c0 g A H0 cells slots Q H locs ls C hW hS hL hret
  obtain ⟨k1, k2, k4, k5, k6, k7, k8⟩ := hK
  have hts := C.2.2.2.2.1
  have hgood : GoodIn G (Cond.code y cc' nL' ret :: G) := goodG (fun _ h => h) k5
  refine ev_after (a := (av.map (tr g)).toArray) C hW hS hL hret ?_ kk
  subst hst
  refine va_runSN (As := av.map (tr g)) (rest := rest.map (tr g)) ⟨C.1, C.2.1, C.2.2.1, C.2.2.2.1, hts⟩ (hC l g) ⟨va_cnB n hts hgood rfl rfl rfl (C.2.2.2.2.2.1.2.1 _ k1) (hts _ k4) ⟨k6, k7, k8⟩ ⟨?_, ?_⟩, hts _ k2, trivial⟩ ⟨BpG_blind g σ _, fun U hU hWU => ⟨rfl, by rw [hU]; exact hW, va_K.moved hWU.alike C.2.2.2.2.2.1.1, by rw [hU]; exact C.2.2.2.2.2.1.2.to hWU hS (fun q hq => by obtain ⟨k, hk, rfl⟩ := hq; exact C.2.2.2.2.2.2.1 k hk)⟩⟩ rfl (by rw [List.length_map]; exact hn) hL.1 ?_ ?_ hd ⟨by have := C.2.2.2.2.2.2.2.2.2.1; omega, by have := C.2.2.2.2.2.2.2.2.2.2; omega⟩
  · have := C.2.2.2.2.2.2.2.1
    show fr' + 1 ≤ _
    omega
  · have := C.2.2.2.2.2.2.2.2.1
    show 8 + (nL' + 11) + lo' ≤ _
    omega
  · show (av.reverse ++ rest).map (tr g) = _
    rw [List.map_append, List.map_reverse]
  · refine lv_room ?_
    rw [tr_cats]
    exact hcat
end CALL
/-- answers: an int and the memory; nothing and the memory; a long -/
def AnsI (z : Int) (σ' : Mem) : Option Value → Mem → Prop := fun v τ => v = some (.int (iI z)) ∧ τ = σ'
def AnsV (σ' : Mem) : Option Value → Mem → Prop := fun v τ => v = none ∧ τ = σ'
def AnsL (z : Int) (σ' : Mem) : Option Value → Mem → Prop := fun v τ => v = some (.long (lI z)) ∧ τ = σ'
theorem ok_I {z : Int} {σ' : Mem} {ret : Option FieldType} (h : ret = some .int) : ∀ v τ, AnsI z σ' v τ → okRet ret v := by
  rintro v τ ⟨rfl, -⟩
  exact ⟨.int, h, rfl⟩
theorem ok_Z {z : Int} {σ' : Mem} {ret : Option FieldType} (h : ret = some .boolean) (hz : z = 0 ∨ z = 1) : ∀ v τ, AnsI z σ' v τ → okRet ret v := by
  rintro v τ ⟨rfl, -⟩
  refine ⟨.boolean, h, ?_⟩
  rcases hz with rfl | rfl <;> decide
theorem ok_V {σ' : Mem} {ret : Option FieldType} (h : ret = none) : ∀ v τ, AnsV σ' v τ → okRet ret v := by
  rintro v τ ⟨rfl, -⟩
  exact h
theorem ok_L {z : Int} {σ' : Mem} {ret : Option FieldType} (h : ret = some .long) : ∀ v τ, AnsL z σ' v τ → okRet ret v := by
  rintro v τ ⟨rfl, -⟩
  exact h
