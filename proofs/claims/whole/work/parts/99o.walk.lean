/-! THE CLAIM OUT OF ONE WALK OF THE LAW'S BODY. Your part is whole_start (and what it stands on); all else here is the same for every law, but numbers. -/
def R_law : String := "RopePostLaw"
def lw_P (b : Addr) (xs : List Int32) (args : Array Value) (s : State) : Prop := args = #[.ref b] ∧ s.IntsAt b xs ∧ xs.length ≤ 3584 ∧ (Jvm.Cond.and given_1 narrow_1).before args s = true
def lw_Q (_ : Array Value) (s : State) (o : Outcome) (t : State) : Prop := o = .returned (some (.int 1)) ∧ Framed s o t [] 600000 7302250
def lw_Z (below : List Frame) (a : Array Value) (s : State) : State → Prop := fun t => ∃ o, t.status = .running ∧ Ended t below o ∧ lw_Q a s o t
/-- the law's own end, with 1 on the stack, nothing written that was there before, its room as the claim has it -/
theorem lw_ret {p : Program} {l : Launch} {e : Env} {s : State} {m : MethodId} {below : List Frame} {meth : Method} {c : Code} {b : Nat} (hx : p.tables.exec = Jvm.exec) (hb : c.code = code) (hr : meth.sig.returnType = ret) (hlocks : meth.locks = false) {pc : Nat} {H : Heap} {ls : Array Slot} (hdg : decode code pc = .ok (.ireturn, 1)) : W p l e room_1 s m #[Value.ref b] below meth c H [] 600000 7302250 (lw_Z below #[Value.ref b] s) (F0 m pc ls [.int 1]) := by
  intro T hT X
  obtain ⟨fs, hret, hrun, hended, hW, hframe⟩ := X.leave (v := some (.int 1)) (hlocks := hlocks) (fun h => by rw [hr] at h; cases h)
  have hmeth' : T.vm.method? m = some meth := X.method'
  refine ⟨T.setFrames fs, ?_, .returned (some (.int 1)), hrun, hended, rfl, ⟨_, rfl⟩, hW, hframe⟩
  jvm_step X.here [X.here.top, hx, hb, hdg, hmeth', hr, ret, narrow_b1]
  (try refine ⟨rfl, ?_⟩); (try refine ⟨rfl, ?_⟩)
  first | (intro acts; rw [hret _ acts rfl rfl rfl]) | rw [hret _ _ rfl rfl rfl]
  exact Steps.refl _
/-- what holds at the law's entry: the machine, the code, the tables' words (any of lw_tbl by 'hts w (by decide +kernel)'), the script of L ints xs at the cell b, what the Statement gives of the start (any of its parts by flat_of_before) -/
def lw_At (p : Program) (s : State) (m : MethodId) (meth : Method) (c : Code) (b L : Nat) (xs : Nat → Int32) : Prop :=
  p.tables.exec = Jvm.exec ∧ c.code = code ∧ meth.sig.returnType = ret ∧ c.maxLocals = 4 ∧ s.vm.findClass R_law = some m.cls ∧ (∀ w ∈ lw_tbl, w.before #[Value.ref b] s = true) ∧ va_X b L xs s s.heap ∧ b < s.heap.size ∧ meth.locks = false ∧ (Jvm.Cond.and given_1 narrow_1).before #[Value.ref b] s = true
section LAWM
variable {p : Program} {l : Launch} {e : Env} {R : Room} {s : State} {m : MethodId} {args : Array Value} {below : List Frame} {meth : Method} {c : Code} {g : Geo} {A : Nat → Prop} {H0 H : Heap} {locs : List Loc} {cells slots : Nat} {Q : State → Prop} {own : String} {cc : ByteArray} {nL : Nat} {pc : Nat} {ls : Array Slot} {rest : List Value} {ws : va_W}
/-- 'new', 'dup', the constructor, in the law -/
theorem lw_make {idx idx2 ci2 cb n mc ms fr lo nL2 : Nat} {y : MethodName} {cc2 : ByteArray} {σ : Mem} {T : u_T} {N : Nat} {ty : Nat → FieldType} (hx : p.tables.exec = Jvm.exec) (hb : c.code = cc) (hml : c.maxLocals = nL) (hown : s.vm.findClass own = some m.cls) (hts : ∀ w ∈ G, w.before args s = true) (hK : va_K g.2.1 vwCl (tysG g) s) (hA : ∀ q, H0.size ≤ q → A q) (hX : NX s) (hM : CtMet y cc2 nL2 ci2 cb n mc ms fr lo σ) (hsz : ls.size = nL) (hcl : vwCl[ci2]? = some (y.cls, T, N)) (huw : ∀ w ∈ u_ws y.cls T N, w ∈ G) (hty : ∀ k, k < N → parseFieldDescriptor (T k).2.2.1 = some (ty k)) (hdf : ∀ k, k < N → defaultValue (ty k) = vp_V (fz ci2) k)
    (hw1 : Cond.classLink own idx y.cls ∈ G) (hw2 : Cond.instantiable y.cls N ∈ G) (hw3 : Cond.initialized y.cls ∈ G) (hw4 : Cond.methodLink own idx2 y ∈ G) (hw5 : Cond.instanceMethod y ∈ G) (hw6 : Cond.code y cc2 nL2 none ∈ G) (hyn : y.name = "<init>") (hy : y.cls ≠ "java/lang/invoke/MethodHandle" ∧ y.cls ≠ "java/lang/invoke/VarHandle" ∧ (parseMethodDescriptor y.desc).map (fun d => d.parameters.length) = some 0)
    (hd0 : decode cc pc = .ok (.new idx, 3)) (hd3 : decode cc (pc + 3) = .ok (.dup, 1)) (hd4 : decode cc (pc + 4) = .ok (.invokespecial idx2, 3)) (hfr : fr + 1 ≤ R.frames) (hlo : 8 + (nL2 + 11) + lo ≤ R.locals) (hc : cells + 1 + mc ≤ R.cells) (hs : slots + N + ms ≤ R.slots) (hcat : (rest.map fun v => v.category).sum ≤ 7) (hP : va_P g.2.1 vwCl ws H) (hD : va_D A ws) (hS : va_S A H0 H locs)
    (kk : ∀ (u : Nat → Nat) (H1 : Heap) (locs1 : List Loc), va_P g.2.1 vwCl (ws ++ blk (u, g.2) σ cb n) H1 → va_D A (ws ++ blk (u, g.2) σ cb n) → va_S A H0 H1 locs1 → W p l e R s m args below meth c H1 locs1 (cells + 1 + mc) (slots + N + ms) Q (F0 m (pc + 7) ls (.ref (u cb) :: rest))) : W p l e R s m args below meth c H locs cells slots Q (F0 m pc ls rest) := by
  refine va_new (ci := ci2) (fs := fz ci2) (C := y.cls) (T := T) (N := N) hx hb hts huw ty hty hown (hts _ hw1) (hts _ hw2) (hts _ hw3) hK hP hD hS hA hcl hdf (by omega) (by omega) hd0 (fun q H1 hP1 hD1 hS1 => ?_)
  refine lv_dup hx hb hd3 rfl ?_
  have hF : ∀ q2, va_A [(q, .inr (ci2, fz ci2))] H1.size q2 → A q2 := by
    intro q2 h
    rcases h with ⟨k, x, h⟩ | h
    · have h1 := List.mem_singleton.mp (List.mem_of_getElem? h)
      cases h1
      exact hD1.2 ws.length (q, .inr (ci2, fz ci2)) (by simp)
    · exact hA q2 (Nat.le_trans hS1.1 h)
  have hPc : va_P g.2.1 vwCl [(q, .inr (ci2, fz ci2))] H1 := by
    intro k x hx
    have h1 := List.mem_singleton.mp (List.mem_of_getElem? hx)
    subst h1
    exact hP1 ws.length (q, .inr (ci2, fz ci2)) (by simp)
  refine va_callv (va_runI (As := []) (rest := .ref q :: rest) ⟨hx, hb, hml, hown, hts⟩ (hM l g q H1.size) (cwI 0 hts (goodG (fun _ h => h) hw6) rfl rfl rfl (hts _ hw3) (hts _ hw4) (hts _ hw5) hyn hy ⟨hfr, hlo⟩) ⟨CtB_blind g q H1.size ci2 _, fun U hU hWU => ⟨rfl, by rw [hU], by rw [hU]; exact hPc, va_K.moved hWU.alike hK, hX.warm hWU⟩⟩ rfl rfl hsz rfl (lv_room ?_) hd4 ⟨hc, hs⟩) hS1 (fun q2 _ h => hF q2 h) hF (fun u t H2 locs2 ht hvm hu hB hz1 hk1 hS2 => ?_)
  · show (Value.ref q).category + (rest.map fun v => v.category).sum ≤ 8
    show 1 + _ ≤ 8
    omega
  · obtain ⟨hP2, hD2⟩ := hB
    rw [ht] at hP2
    obtain ⟨hP3, hD3⟩ := va_joinE (front := ws) hP1 hD1 hk1 hF hP2 hD2
    have := kk u H2 locs2 hP3 hD3 hS2
    rw [hu] at this
    exact this
end LAWM
set_option maxHeartbeats 4000000 in
set_option maxRecDepth 100000 in
/-- THE LAW, from its entry -/
theorem whole_start {p : Program} {e : Env} {s : State} {m : MethodId} {below : List Frame} {meth : Method} {c : Code} (l : Launch) {b L : Nat} {xs : Nat → Int32} (hL : L ≤ 3584) (C0 : lw_At p s m meth c b L xs) : W p l e room_1 s m #[Value.ref b] below meth c s.heap [] 0 0 (lw_Z below #[Value.ref b] s) (entryFrame m ([Value.ref b] : List Value).toArray 4) := by
  obtain ⟨hx, hb, hr, hml, hown, hts, hXs, hbl, hlocks, hgv⟩ := C0
  have hA : ∀ q : Nat, s.heap.size ≤ q → (fun q : Nat => s.heap.size ≤ q) q := fun _ h => h
  have hnA : ∀ a : Nat, a < s.heap.size → ¬ (fun q : Nat => s.heap.size ≤ q) a := fun a h => Nat.not_le.mpr h
  generalize hAe : (fun q : Nat => s.heap.size ≤ q) = A at hA hnA
  have hG : ∀ w ∈ G, w.before #[Value.ref b] s = true := fun w hw => hts w (memG' hw).1
  obtain ⟨adK, adV, hXA⟩ := start_xa (A := A) hts hgv hnA
  obtain ⟨g2, hK⟩ := start_k hts
  have hNX := start_nx hts
  have hl := lv_entry ([.ref b]) (n := 4) (Nat.le_of_ble_eq_true rfl)
  rw [lg_entry_eq]
  generalize (lg_sl ([.ref b]) ++ List.replicate (4 - (lg_sl ([.ref b])).length) Slot.unset).toArray = ls at hl ⊢
  have hl : lv_has ls 4 [(0, .ref b)] := hl
  have hP : va_P g2.1 vwCl [] s.heap := fun k q h => by simp at h
  have hD : va_D A [] := ⟨fun i j p q h => by simp at h, fun k q h => by simp at h⟩
  refine lw_make (g := (fun _ => 0, g2)) (ci2 := 7) (cb := 0) (ty := tyX7) (own := RL) (ws := []) hx hb hml hown hG (hK _) hA hNX c_X7_init hl.1 rfl uX7 tyX7_ok df_X7 cl_L_7 in_X7 it_X7 ml_L_9 im_X7 co_X7 rfl ⟨by decide, by decide, by decide +kernel⟩ dL_law_0 dL_law_3 dL_law_4 (Nat.le_of_ble_eq_true rfl) (Nat.le_of_ble_eq_true rfl) (Nat.le_of_ble_eq_true rfl) (Nat.le_of_ble_eq_true rfl) (Nat.le_of_ble_eq_true rfl) hP hD va_S.rf (fun u H locs hP hD hS => ?_)
  refine lv_astore_n (lv' := [(1, .ref (u 0)), (0, .ref b)]) hx hb dL_law_7 rfl hl (by decide) rfl (fun ls hl => ?_)
  refine lw_make (g := (fun _ => 0, g2)) (ci2 := 8) (cb := 79) (ty := tyX8) (own := RL) hx hb hml hown hG (hK _) hA hNX c_X8_init hl.1 rfl uX8 tyX8_ok df_X8 cl_L_10 in_X8 it_X8 ml_L_12 im_X8 co_X8 rfl ⟨by decide, by decide, by decide +kernel⟩ dL_law_8 dL_law_11 dL_law_12 (Nat.le_of_ble_eq_true rfl) (Nat.le_of_ble_eq_true rfl) (Nat.le_of_ble_eq_true rfl) (Nat.le_of_ble_eq_true rfl) (Nat.le_of_ble_eq_true rfl) hP hD hS (fun u2 H locs hP hD hS => ?_)
  refine lv_astore_n (lv' := [(2, .ref (u2 79)), (1, .ref (u 0)), (0, .ref b)]) hx hb dL_law_15 rfl hl (by decide) rfl (fun ls hl => ?_)
  refine lv_iconst (v := iI 0) hx hb dL_law_16 rfl ?_
  refine lv_istore_n (lv' := [(3, .int (iI 0)), (2, .ref (u2 79)), (1, .ref (u 0)), (0, .ref b)]) hx hb dL_law_17 rfl hl (by decide) rfl (fun ls hl => ?_)
  obtain ⟨V, hV⟩ : ∃ V : Nat → Nat, V = fun k => if k < 79 then u k else if k < 134 then u2 k else if k < 2000 then adK (k - 1000) else if k < 3000 then adV (k - 2000) else b := ⟨_, rfl⟩
  obtain ⟨F, hF⟩ : ∃ F : Nat → va_E, F = fun k => if k < 79 then ent (u, g2) (beginM mm0 3 0) k else ent (u2, g2) mm0 k := ⟨_, rfl⟩
  have v1 : ∀ k, k < 79 → V k = u k := fun k h => by rw [hV]; dsimp only; rw [if_pos h]
  have v2 : ∀ k, 79 ≤ k → k < 134 → V k = u2 k := fun k h h2 => by rw [hV]; dsimp only; rw [if_neg (by omega), if_pos h2]
  have f1 : ∀ k, k < 79 → F k = ent (u, g2) (beginM mm0 3 0) k := fun k h => by rw [hF]; dsimp only; rw [if_pos h]
  have f2 : ∀ k, 79 ≤ k → F k = ent (u2, g2) mm0 k := fun k h => by rw [hF]; dsimp only; rw [if_neg (by omega)]
  have e1 : ([] : va_W) ++ blk (u, g2) (beginM mm0 3 0) 0 79 ++ blk (u2, g2) mm0 79 55 = (List.range' 0 79 ++ List.range' 79 55).map fun k => (V k, F k) := by
    rw [List.nil_append, List.map_append]
    congr 1
    · unfold blk
      refine List.map_congr_left (fun k hk => ?_)
      have h := List.mem_range'_1.mp hk
      rw [v1 k (by omega), f1 k (by omega)]
    · unfold blk
      refine List.map_congr_left (fun k hk => ?_)
      have h := List.mem_range'_1.mp hk
      rw [v2 k (by omega) (by omega), f2 k (by omega)]
  have hP : va_P g2.1 vwCl (([] : va_W) ++ blk (u, g2) (beginM mm0 3 0) 0 79 ++ blk (u2, g2) mm0 79 55) H := hP
  have hD : va_D A (([] : va_W) ++ blk (u, g2) (beginM mm0 3 0) 0 79 ++ blk (u2, g2) mm0 79 55) := hD
  rw [e1] at hP hD
  obtain ⟨hP, hD⟩ := perm_world (n := 134) (F2 := fun k => ent (V, g2) (beginM mm0 3 0) k) (fun k => k) (by decide +kernel) (fun i hi ha => by
    by_cases h : i < 79
    · rw [f1 i h] at ha
      exact at_geo (g := (u, g2)) (h := (V, g2)) (fun k => 0 ≤ k ∧ k < 79) rfl (fun k hk => (v1 k hk.2).symm) (rf_all (by rw [bm_c (by decide)]; rfl) (by rw [bm_c (by decide)]; rfl) i h) ha
    · rw [f2 i (by omega), ent_eq (σ' := mm0) (σ := beginM mm0 3 0) (bm_c (by omega)).symm rfl] at ha
      exact at_geo (g := (u2, g2)) (h := (V, g2)) (fun k => 79 ≤ k ∧ k < 134) rfl (fun k hk => (v2 k hk.1 hk.2).symm) (rf_79 i ⟨by omega, hi⟩) ha) hP hD
  have hWd : Wd (V, g2) (beginM mm0 3 0) H := ⟨hP, hD.weaken (fun _ _ _ _ => trivial), bm_R⟩
  have hV3 : V 3000 = b := by rw [hV]; rfl
  refine law_loop (xs := xs) hL L 0 (beginM mm0 3 0) (by omega) (by omega) sim_start p l e room_1 s m #[Value.ref b] below meth c (V, g2) A s.heap _ _ _ H locs ls ⟨hx, hb, hml, hown, hG, ⟨hK V, hXA (V, g2) (fun i hi => ⟨?_, ?_⟩)⟩, fun k hk => ?_, Nat.le_of_ble_eq_true rfl, Nat.le_of_ble_eq_true rfl, Nat.le_of_ble_eq_true rfl, Nat.le_of_ble_eq_true rfl⟩ ⟨?_, ?_, ?_⟩ hWd hS ⟨hl.1, hl.2.1, fun i v hv => ?_⟩ ?_
  · show V (1000 + i) = adK i
    rw [hV]; dsimp only
    rw [if_neg (by omega), if_neg (by omega), if_pos (by omega), show 1000 + i - 1000 = i by omega]
  · show V (2000 + i) = adV i
    rw [hV]; dsimp only
    rw [if_neg (by omega), if_neg (by omega), if_neg (by omega), if_pos (by omega), show 2000 + i - 2000 = i by omega]
  · exact hD.2 k _ (by rw [List.getElem?_map, List.getElem?_range hk]; rfl)
  · show va_X (V 3000) L xs s s.heap
    rw [hV3]; exact hXs
  · show V 3000 < s.heap.size
    rw [hV3]; exact hbl
  · show ¬ A (V 3000)
    rw [hV3]; exact hnA b hbl
  · match i, hv with
    | 0, hv => cases hv; show ls[0]? = some (.val (.ref (V 3000))); rw [hV3]; exact lv_at hl 3 rfl
    | 1, hv => cases hv; show ls[1]? = some (.val (.ref (V 0))); rw [v1 0 (by decide)]; exact lv_at hl 2 rfl
    | 2, hv => cases hv; show ls[2]? = some (.val (.ref (V 79))); rw [v2 79 (by decide) (by decide)]; exact lv_at hl 1 rfl
    | 3, hv => cases hv; exact lv_at hl 0 rfl
    | n + 4, hv => simp at hv
  · intro v σ' pc' H' locs' ls' hv hret hW' hS'
    have hv : v = some (.int (iI 1)) := hv
    subst hv
    refine va_forget (fun q hq => by have := hS'.2.2 q hq; rw [← hAe] at this; exact this) ?_
    refine W.widen (k := 600000) (n := 7302250) (Nat.le_of_ble_eq_true rfl) (Nat.le_of_ble_eq_true rfl) ?_
    exact lw_ret hx hb hr hlocks hret
