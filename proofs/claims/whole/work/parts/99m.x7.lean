/-! the class's own constructor -/
section CTOR7
variable {p : Program} {l : Launch} {e : Env} {R : Room} {s : State} {m : MethodId} {args : Array Value} {below : List Frame} {meth : Method} {c : Code} {g : Geo} {A : Nat → Prop} {H0 H : Heap} {locs : List Loc} {cells slots : Nat} {Q : State → Prop} {own : String} {cc : ByteArray} {nL : Nat} {pc : Nat} {ls : Array Slot} {rest : List Value} {h0 ci : Nat} {fs : List Value} {ws : va_W}
theorem ct_get {idx k : Nat} {v : Value} (C : Ct own cc nL p s m args meth c g A H0) (hF : FL own idx ci k) (hv : fs[k]? = some v) (hd : decode cc pc = .ok (.getfield idx, 3)) (hI : CtI g A H0 h0 ci fs ws H locs) (kk : W p l e R s m args below meth c H locs cells slots Q (F0 m (pc + 3) ls (v :: rest))) : W p l e R s m args below meth c H locs cells slots Q (F0 m pc ls (.ref h0 :: rest)) := by
  obtain ⟨C1, T, N, ty, h1, h2, h3, h4, h5, h6, h7⟩ := hF
  exact va_get C.1 C.2.1 C.2.2.2.2.1 h3 C.2.2.2.1 C.2.2.2.2.2.1 hI.1 0 rfl h1 k h6 (C.2.2.2.2.1 _ h7) (fun _ h => h) hv hd kk
theorem ct_newq {idx n : Nat} {z : Int} (C : Ct own cc nL p s m args meth c g A H0) (hw : Cond.classLink own idx "RopePost$State" ∈ G) (hz : z = n) (hn : n ≤ 4096) (hc : cells + 1 ≤ R.cells) (hs : slots + n ≤ R.slots) (hd : decode cc pc = .ok (.anewarray idx, 3)) (hI : CtI g A H0 h0 ci fs ws H locs)
    (kk : ∀ (q : Nat) (H1 : Heap), CtI g A H0 h0 ci fs (ws ++ [(q, .inl (acls g 3, n, .inr (.inr (.inr (.inr (fun _ => none))))))]) H1 locs → W p l e R s m args below meth c H1 locs (cells + 1) (slots + n) Q (F0 m (pc + 3) ls (.ref q :: rest))) : W p l e R s m args below meth c H locs cells slots Q (F0 m pc ls (.int (iI z) :: rest)) := by
  subst hz
  have hK := C.2.2.2.2.2.1
  have hnn : ¬ iI (n : Int) < 0 := fun h => by
    have := (iI_lt (a := (n : Int)) (b := 0) ⟨by omega, by omega⟩ inR0).mp h
    omega
  refine va_newq C.1 C.2.1 C.2.2.2.1 (C.2.2.2.2.1 _ hw) C.2.2.2.2.2.2.2.2.2 hK hI.1 hI.2.1 hI.2.2.1 C.2.2.2.2.2.2.1 hnn (by rw [iI_clamp (by omega) (by omega)]; rfl) (by omega) hc hs hd (fun q cA H1 hK1 hP1 hD1 hS1 => ?_)
  have e1 : cA = acls g 3 := Option.some.inj ((va_nmO (hK1.2 4 (cA, .object "RopePost$State") rfl).2 rfl).symm.trans (va_nmO (hK.2 3 _ (tysG_at g rfl)).2 rfl))
  subst e1
  exact kk q H1 ⟨hP1, hD1, hS1, hI.2.2.2⟩
theorem ct_ast {n qk v a : Nat} {q0 : Nat} {vs : List Value} {f : Nat → Option Nat} {i : Int} {j : Nat} (C : Ct own cc nL p s m args meth c g A H0) (ha : ws[q0]? = some (a, .inl (acls g 3, n, .inr (.inr (.inr (.inr f)))))) (hv : ws[qk]? = some (v, .inr (5, vs))) (hi : i = j) (hj : j < n) (hn : n ≤ 4096) (hd : decode cc pc = .ok (.aastore, 1)) (hI : CtI g A H0 h0 ci fs ws H locs)
    (kk : ∀ (H1 : Heap) (locs1 : List Loc), CtI g A H0 h0 ci fs (ws.set q0 (a, .inl (acls g 3, n, .inr (.inr (.inr (.inr (va_up f j (some v)))))))) H1 locs1 → W p l e R s m args below meth c H1 locs1 cells slots Q (F0 m (pc + 1) ls rest)) : W p l e R s m args below meth c H locs cells slots Q (F0 m pc ls (.ref v :: .int (iI i) :: .ref a :: rest)) := by
  subst hi
  refine va_astq (r := (RX5, TX5, 15)) C.1 C.2.1 C.2.2.2.2.2.1 hI.1 hI.2.1 hI.2.2.1 (q0 + 1) 3 (qk + 1) 5 (by rw [List.getElem?_cons_succ]; exact ha) (tysG_at g rfl) (by rw [List.getElem?_cons_succ]; exact hv) rfl (iI_vin (by omega) (by omega) (by omega)) hd (fun H1 locs1 hP hD hS1 => ?_)
  rw [iI_clamp (by omega) (by omega), List.set_cons_succ, show ((j : Int)).toNat = j from rfl] at hP hD
  exact kk H1 locs1 ⟨hP, hD, hS1, hI.2.2.2⟩
end CTOR7
/-- the end of it: 'begin', over the 79 cells -/
theorem z7 : zEv RX7 cX7_init 2 2 70 (AnsV (beginM mm0 3 0)) 131 [some (.ref 0), some (.int (iI 2))] [] mm0 := by
  refine zev_aload_n dX7_init_131 rfl ?_
  refine zev_getR (r := 37) dX7_init_132 fl_X7_29 rfl rfl rfl ?_
  refine zev_aload_n dX7_init_135 rfl ?_
  refine zev_getQ (r := 3) dX7_init_136 fl_X7_19 rfl rfl rfl ?_
  refine zev_callVV dX7_init_139 kv_X7_69 (zk_begin mm0 3 0 (Or.inl rfl) rfl (by decide)) rfl rfl (ci := 5) rfl rfl ⟨by decide, by decide⟩ (Nat.le_of_ble_eq_true rfl) ?_
  refine zev_return dX7_init_142 ?_
  exact ⟨rfl, rfl⟩
def L7 : List Nat := List.range' 0 1 ++ List.range' 1 2 ++ List.range' 3 17 ++ List.range' 20 17 ++ List.range' 37 9 ++ List.range' 46 1 ++ List.range' 65 4 ++ List.range' 69 3 ++ List.range' 72 5 ++ List.range' 77 2 ++ List.range' 47 9 ++ List.range' 56 9
def pi7 (k : Nat) : Nat := if k < 47 then k else if k < 65 then k + 14 else k - 18
theorem pi7_ok : ∀ i, i < 79 → L7[pi7 i]? = some i := by decide +kernel
def rfB (lo hi c : Nat) : Bool := match shapes[c]? with
  | some (.inl ci) => (List.range (nfld ci)).all (fun k => ((fkd ci k).1 != 2 || (decide (lo ≤ c + (fkd ci k).2) && decide (c + (fkd ci k).2 < hi))) && (fkd ci k).1 != 3)
  | some (.inr (t, _)) => t != 3
  | none => true
theorem rfB_ok {lo hi c : Nat} {σ : Mem} (h : rfB lo hi c = true) : refsIn (fun k => lo ≤ k ∧ k < hi) σ c := by
  unfold rfB at h
  unfold refsIn
  split
  next ci hs =>
    rw [hs] at h
    intro k hk
    have h1 := List.all_eq_true.mp h k (List.mem_range.mpr hk)
    simp only [Bool.and_eq_true, Bool.or_eq_true, bne_iff_ne, decide_eq_true_eq, ne_eq] at h1
    exact ⟨fun q => by omega, fun q => absurd q h1.2⟩
  next t n hs =>
    rw [hs] at h
    intro q
    subst q
    simp at h
  · trivial
theorem rf_1 {σ : Mem} (i : Nat) (h : 1 ≤ i ∧ i < 3) : refsIn (fun k => 1 ≤ k ∧ k < 3) σ i := by
  have : ∀ i, i < 3 → 1 ≤ i → rfB 1 3 i = true := by decide +kernel
  exact rfB_ok (this i h.2 h.1)
theorem rf_3 {σ : Mem} (i : Nat) (h : 3 ≤ i ∧ i < 20) : refsIn (fun k => 3 ≤ k ∧ k < 20) σ i := by
  have : ∀ i, i < 20 → 3 ≤ i → rfB 3 20 i = true := by decide +kernel
  exact rfB_ok (this i h.2 h.1)
theorem rf_20 {σ : Mem} (i : Nat) (h : 20 ≤ i ∧ i < 37) : refsIn (fun k => 20 ≤ k ∧ k < 37) σ i := by
  have : ∀ i, i < 37 → 20 ≤ i → rfB 20 37 i = true := by decide +kernel
  exact rfB_ok (this i h.2 h.1)
theorem rf_37 {σ : Mem} (i : Nat) (h : 37 ≤ i ∧ i < 46) : refsIn (fun k => 37 ≤ k ∧ k < 46) σ i := by
  have : ∀ i, i < 46 → 37 ≤ i → rfB 37 46 i = true := by decide +kernel
  exact rfB_ok (this i h.2 h.1)
theorem rf_47 {σ : Mem} (i : Nat) (h : 47 ≤ i ∧ i < 56) : refsIn (fun k => 47 ≤ k ∧ k < 56) σ i := by
  have : ∀ i, i < 56 → 47 ≤ i → rfB 47 56 i = true := by decide +kernel
  exact rfB_ok (this i h.2 h.1)
theorem rf_56 {σ : Mem} (i : Nat) (h : 56 ≤ i ∧ i < 65) : refsIn (fun k => 56 ≤ k ∧ k < 65) σ i := by
  have : ∀ i, i < 65 → 56 ≤ i → rfB 56 65 i = true := by decide +kernel
  exact rfB_ok (this i h.2 h.1)
theorem rf_65 {σ : Mem} (i : Nat) (h : 65 ≤ i ∧ i < 69) : refsIn (fun k => 65 ≤ k ∧ k < 69) σ i := by
  have : ∀ i, i < 69 → 65 ≤ i → rfB 65 69 i = true := by decide +kernel
  exact rfB_ok (this i h.2 h.1)
theorem rf_69 {σ : Mem} (i : Nat) (h : 69 ≤ i ∧ i < 72) : refsIn (fun k => 69 ≤ k ∧ k < 72) σ i := by
  have : ∀ i, i < 72 → 69 ≤ i → rfB 69 72 i = true := by decide +kernel
  exact rfB_ok (this i h.2 h.1)
theorem rf_72 {σ : Mem} (i : Nat) (h : 72 ≤ i ∧ i < 77) : refsIn (fun k => 72 ≤ k ∧ k < 77) σ i := by
  have : ∀ i, i < 77 → 72 ≤ i → rfB 72 77 i = true := by decide +kernel
  exact rfB_ok (this i h.2 h.1)
theorem rf_77 {σ : Mem} (i : Nat) (h : 77 ≤ i ∧ i < 79) : refsIn (fun k => 77 ≤ k ∧ k < 79) σ i := by
  have : ∀ i, i < 79 → 77 ≤ i → rfB 77 79 i = true := by decide +kernel
  exact rfB_ok (this i h.2 h.1)
theorem rf_79 {σ : Mem} (i : Nat) (h : 79 ≤ i ∧ i < 134) : refsIn (fun k => 79 ≤ k ∧ k < 134) σ i := by
  have : ∀ i, i < 134 → 79 ≤ i → rfB 79 134 i = true := by decide +kernel
  exact rfB_ok (this i h.2 h.1)
set_option maxHeartbeats 8000000 in
set_option maxRecDepth 100000 in
theorem r_X7_init : CtRun RX7 cX7_init 2 7 0 79 78 5408 2 70 (beginM mm0 3 0) := by
  intro p l e R s m args below meth c0 g A h0 ls Q C hl hI hfr hlo hmc hms hret
  have hI : CtI g A s.heap h0 7 [.null, .null, .null, .null, .null, .int (iI 0), .null, .null, .null, .null] [] s.heap [] := hI
  refine ct_aload C hl 0 rfl dX7_init_0 ?_
  refine ct_obj C hl.1 oi_X7 (by omega) (by omega) (Nat.le_of_ble_eq_true rfl) dX7_init_1 ?_
  refine ct_aload C hl 0 rfl dX7_init_4 ?_
  refine ct_make (ci2 := 3) (cb := 1) (ty := tyX3) C rfl c_X3_init hl.1 rfl rfl uX3 tyX3_ok df_X3 cl_X7_7 in_X3 it_X3 (List.mem_of_getElem? (i := 0) rfl) im_X3 co_X3 rfl ⟨by decide, by decide, by decide +kernel⟩ dX7_init_5 dX7_init_8 dX7_init_9 (by omega) (by omega) (by omega) (by omega) (Nat.le_of_ble_eq_true rfl) hI (fun ur H locs hI => ?_)
  refine ct_putF C fc_X7_10 rfl rfl dX7_init_12 hI (fun H locs hI => ?_)
  refine ct_aload C hl 0 rfl dX7_init_15 ?_
  refine ct_make (ci2 := 2) (cb := 3) (ty := tyX2) C rfl (c_X2_init 3 (Or.inl rfl)) hl.1 rfl rfl uX2 tyX2_ok df_X2 cl_X7_16 in_X2 it_X2 (List.mem_of_getElem? (i := 1) rfl) im_X2 co_X2 rfl ⟨by decide, by decide, by decide +kernel⟩ dX7_init_16 dX7_init_19 dX7_init_20 (by omega) (by omega) (by omega) (by omega) (Nat.le_of_ble_eq_true rfl) hI (fun up H locs hI => ?_)
  refine ct_put C fp_X7_19 rfl rfl dX7_init_23 hI (fun H locs hI => ?_)
  refine ct_aload C hl 0 rfl dX7_init_26 ?_
  refine ct_make (ci2 := 2) (cb := 20) (ty := tyX2) C rfl (c_X2_init 20 (Or.inr rfl)) hl.1 rfl rfl uX2 tyX2_ok df_X2 cl_X7_16 in_X2 it_X2 (List.mem_of_getElem? (i := 1) rfl) im_X2 co_X2 rfl ⟨by decide, by decide, by decide +kernel⟩ dX7_init_27 dX7_init_30 dX7_init_31 (by omega) (by omega) (by omega) (by omega) (Nat.le_of_ble_eq_true rfl) hI (fun un H locs hI => ?_)
  refine ct_put C fp_X7_23 rfl rfl dX7_init_34 hI (fun H locs hI => ?_)
  refine ct_aload C hl 0 rfl dX7_init_37 ?_
  refine ct_make (ci2 := 5) (cb := 37) (ty := tyX5) C rfl (c_X5_init 37 (Or.inl rfl)) hl.1 rfl rfl uX5 tyX5_ok df_X5 cl_X7_26 in_X5 it_X5 (List.mem_of_getElem? (i := 2) rfl) im_X5 co_X5 rfl ⟨by decide, by decide, by decide +kernel⟩ dX7_init_38 dX7_init_41 dX7_init_42 (by omega) (by omega) (by omega) (by omega) (Nat.le_of_ble_eq_true rfl) hI (fun us H locs hI => ?_)
  refine ct_putF C fc_X7_29 rfl rfl dX7_init_45 hI (fun H locs hI => ?_)
  refine ct_aload C hl 0 rfl dX7_init_48 ?_
  refine ct_iconst C dX7_init_49 ?_
  refine ct_newq (n := 2) C cl_X7_26 rfl (by decide) (by omega) (by omega) dX7_init_50 hI (fun qi H hI => ?_)
  refine ct_putF C fc_X7_33 rfl rfl dX7_init_53 hI (fun H locs hI => ?_)
  refine ct_aload C hl 0 rfl dX7_init_56 ?_
  refine ct_iconst C dX7_init_57 ?_
  refine ct_put C fp_X7_37 rfl rfl dX7_init_58 hI (fun H locs hI => ?_)
  refine ct_aload C hl 0 rfl dX7_init_61 ?_
  refine ct_make (ci2 := 0) (cb := 65) (ty := tyX0) C rfl c_X0_init hl.1 rfl rfl uX0 tyX0_ok df_X0 cl_X7_41 in_X0 it_X0 (List.mem_of_getElem? (i := 3) rfl) im_X0 co_X0 rfl ⟨by decide, by decide, by decide +kernel⟩ dX7_init_62 dX7_init_65 dX7_init_66 (by omega) (by omega) (by omega) (by omega) (Nat.le_of_ble_eq_true rfl) hI (fun ub H locs hI => ?_)
  refine ct_putF C fc_X7_44 rfl rfl dX7_init_69 hI (fun H locs hI => ?_)
  refine ct_aload C hl 0 rfl dX7_init_72 ?_
  refine ct_make (ci2 := 6) (cb := 69) (ty := tyX6) C rfl c_X6_init hl.1 rfl rfl uX6 tyX6_ok df_X6 cl_X7_48 in_X6 it_X6 (List.mem_of_getElem? (i := 4) rfl) im_X6 co_X6 rfl ⟨by decide, by decide, by decide +kernel⟩ dX7_init_73 dX7_init_76 dX7_init_77 (by omega) (by omega) (by omega) (by omega) (Nat.le_of_ble_eq_true rfl) hI (fun uw H locs hI => ?_)
  refine ct_putF C fc_X7_51 rfl rfl dX7_init_80 hI (fun H locs hI => ?_)
  refine ct_aload C hl 0 rfl dX7_init_83 ?_
  refine ct_make (ci2 := 4) (cb := 72) (ty := tyX4) C rfl c_X4_init hl.1 rfl rfl uX4 tyX4_ok df_X4 cl_X7_55 in_X4 it_X4 (List.mem_of_getElem? (i := 5) rfl) im_X4 co_X4 rfl ⟨by decide, by decide, by decide +kernel⟩ dX7_init_84 dX7_init_87 dX7_init_88 (by omega) (by omega) (by omega) (by omega) (Nat.le_of_ble_eq_true rfl) hI (fun uo H locs hI => ?_)
  refine ct_putF C fc_X7_58 rfl rfl dX7_init_91 hI (fun H locs hI => ?_)
  refine ct_aload C hl 0 rfl dX7_init_94 ?_
  refine ct_make (ci2 := 1) (cb := 77) (ty := tyX1) C rfl c_X1_init hl.1 rfl rfl uX1 tyX1_ok df_X1 cl_X7_62 in_X1 it_X1 (List.mem_of_getElem? (i := 6) rfl) im_X1 co_X1 rfl ⟨by decide, by decide, by decide +kernel⟩ dX7_init_95 dX7_init_98 dX7_init_99 (by omega) (by omega) (by omega) (by omega) (Nat.le_of_ble_eq_true rfl) hI (fun ud H locs hI => ?_)
  refine ct_putF C fc_X7_65 rfl rfl dX7_init_102 hI (fun H locs hI => ?_)
  have hI : CtI g A s.heap h0 7 [.ref (ur 1), .ref (up 3), .ref (un 20), .ref (us 37), .ref qi, .int (iI 0), .ref (ub 65), .ref (uw 69), .ref (uo 72), .ref (ud 77)] _ H locs := hI
  refine ct_iconst C dX7_init_105 ?_
  refine lv_istore_n (lv' := [(1, .int (iI 0)), (0, .ref h0)]) C.1 C.2.1 dX7_init_106 rfl hl (by decide) rfl (fun ls hl => ?_)
  refine lv_iload_n C.1 C.2.1 dX7_init_107 rfl (lv_at hl 0 rfl) ?_
  refine ct_iconst C dX7_init_108 ?_
  refine lv_icmp_ge (tgt := 131) C.1 C.2.1 dX7_init_109 (by decide) (fun q => absurd q (by decide)) (fun _ => ?_)
  refine ct_aload C hl 1 rfl dX7_init_112 ?_
  refine ct_get (v := .ref qi) C fl_X7_33 rfl dX7_init_113 hI ?_
  refine lv_iload_n C.1 C.2.1 dX7_init_116 rfl (lv_at hl 0 rfl) ?_
  refine ct_make (ci2 := 5) (cb := 47) (ty := tyX5) C rfl (c_X5_init 47 (Or.inr (Or.inl rfl))) hl.1 rfl rfl uX5 tyX5_ok df_X5 cl_X7_26 in_X5 it_X5 (List.mem_of_getElem? (i := 2) rfl) im_X5 co_X5 rfl ⟨by decide, by decide, by decide +kernel⟩ dX7_init_117 dX7_init_120 dX7_init_121 (by omega) (by omega) (by omega) (by omega) (Nat.le_of_ble_eq_true rfl) hI (fun ua H locs hI => ?_)
  refine ct_ast (q0 := 45) (qk := 60) (j := 0) C rfl rfl rfl (by decide) (by decide) dX7_init_124 hI (fun H locs hI => ?_)
  refine lv_iinc (v := iI 1) (lv' := [(1, .int (iI 1)), (0, .ref h0)]) C.1 C.2.1 dX7_init_125 hl (k := 0) rfl (by decide) (by decide) rfl (fun ls hl => ?_)
  refine lv_goto (tgt := 107) C.1 C.2.1 dX7_init_128 (by decide) ?_
  refine lv_iload_n C.1 C.2.1 dX7_init_107 rfl (lv_at hl 0 rfl) ?_
  refine ct_iconst C dX7_init_108 ?_
  refine lv_icmp_ge (tgt := 131) C.1 C.2.1 dX7_init_109 (by decide) (fun q => absurd q (by decide)) (fun _ => ?_)
  refine ct_aload C hl 1 rfl dX7_init_112 ?_
  refine ct_get (v := .ref qi) C fl_X7_33 rfl dX7_init_113 hI ?_
  refine lv_iload_n C.1 C.2.1 dX7_init_116 rfl (lv_at hl 0 rfl) ?_
  refine ct_make (ci2 := 5) (cb := 56) (ty := tyX5) C rfl (c_X5_init 56 (Or.inr (Or.inr rfl))) hl.1 rfl rfl uX5 tyX5_ok df_X5 cl_X7_26 in_X5 it_X5 (List.mem_of_getElem? (i := 2) rfl) im_X5 co_X5 rfl ⟨by decide, by decide, by decide +kernel⟩ dX7_init_117 dX7_init_120 dX7_init_121 (by omega) (by omega) (by omega) (by omega) (Nat.le_of_ble_eq_true rfl) hI (fun uz H locs hI => ?_)
  refine ct_ast (q0 := 45) (qk := 69) (j := 1) C rfl rfl rfl (by decide) (by decide) dX7_init_124 hI (fun H locs hI => ?_)
  refine lv_iinc (v := iI 2) (lv' := [(1, .int (iI 2)), (0, .ref h0)]) C.1 C.2.1 dX7_init_125 hl (k := 0) rfl (by decide) (by decide) rfl (fun ls hl => ?_)
  refine lv_goto (tgt := 107) C.1 C.2.1 dX7_init_128 (by decide) ?_
  refine lv_iload_n C.1 C.2.1 dX7_init_107 rfl (lv_at hl 0 rfl) ?_
  refine ct_iconst C dX7_init_108 ?_
  refine lv_icmp_ge (tgt := 131) C.1 C.2.1 dX7_init_109 (by decide) (fun _ => ?_) (fun q => absurd (by decide) q)
  obtain ⟨U, hU⟩ : ∃ U : Nat → Nat, U = fun k => if k < 1 then h0 else if k < 3 then ur k else if k < 20 then up k else if k < 37 then un k else if k < 46 then us k else if k < 47 then qi else if k < 56 then ua k else if k < 65 then uz k else if k < 69 then ub k else if k < 72 then uw k else if k < 77 then uo k else ud k := ⟨_, rfl⟩
  obtain ⟨F, hF⟩ : ∃ F : Nat → va_E, F = fun k => if k < 1 then .inr (7, [.ref (ur 1), .ref (up 3), .ref (un 20), .ref (us 37), .ref qi, .int (iI 0), .ref (ub 65), .ref (uw 69), .ref (uo 72), .ref (ud 77)]) else if k < 3 then ent (ur, g.2) mm0 k else if k < 20 then ent (up, g.2) mm0 k else if k < 37 then ent (un, g.2) mm0 k else if k < 46 then ent (us, g.2) mm0 k else if k < 47 then .inl (acls g 3, 2, .inr (.inr (.inr (.inr (va_up (va_up (fun _ => none) 0 (some (ua 47))) 1 (some (uz 56))))))) else if k < 56 then ent (ua, g.2) mm0 k else if k < 65 then ent (uz, g.2) mm0 k else if k < 69 then ent (ub, g.2) mm0 k else if k < 72 then ent (uw, g.2) mm0 k else if k < 77 then ent (uo, g.2) mm0 k else ent (ud, g.2) mm0 k := ⟨_, rfl⟩
  have hw : va_P g.2.1 vwCl (L7.map fun k => (U k, F k)) H ∧ va_D A (L7.map fun k => (U k, F k)) := by rw [hU, hF]; exact ⟨hI.1, hI.2.1⟩
  have hq : ∀ i, i < 79 → va_at g.2.1 vwCl (U i, F i) H → va_at g.2.1 vwCl (U i, zent (U, g.2) mm0 i) H := by
    intro i hi ha
    rw [zent_sh hi]
    rcases (by omega : i < 1 ∨ (1 ≤ i ∧ i < 3) ∨ (3 ≤ i ∧ i < 20) ∨ (20 ≤ i ∧ i < 37) ∨ (37 ≤ i ∧ i < 46) ∨ (46 ≤ i ∧ i < 47) ∨ (47 ≤ i ∧ i < 56) ∨ (56 ≤ i ∧ i < 65) ∨ (65 ≤ i ∧ i < 69) ∨ (69 ≤ i ∧ i < 72) ∨ (72 ≤ i ∧ i < 77) ∨ (77 ≤ i ∧ i < 79)) with h | h | h | h | h | h | h | h | h | h | h | h
    · obtain rfl : i = 0 := by omega
      have e : ent (U, g.2) mm0 0 = F 0 := by rw [hU, hF]; rfl
      rw [e]; exact ha
    · have e : F i = ent (ur, g.2) mm0 i := by rw [hF]; dsimp only; rw [if_neg (by omega)]; rw [if_pos (by omega)]
      rw [e] at ha
      refine at_geo (g := (ur, g.2)) (h := (U, g.2)) (fun k => 1 ≤ k ∧ k < 3) rfl (fun k hk => ?_) (rf_1 i h) ha
      show ur k = U k
      rw [hU]; dsimp only; rw [if_neg (by omega)]; rw [if_pos (by omega)]
    · have e : F i = ent (up, g.2) mm0 i := by rw [hF]; dsimp only; rw [if_neg (by omega)]; rw [if_neg (by omega)]; rw [if_pos (by omega)]
      rw [e] at ha
      refine at_geo (g := (up, g.2)) (h := (U, g.2)) (fun k => 3 ≤ k ∧ k < 20) rfl (fun k hk => ?_) (rf_3 i h) ha
      show up k = U k
      rw [hU]; dsimp only; rw [if_neg (by omega)]; rw [if_neg (by omega)]; rw [if_pos (by omega)]
    · have e : F i = ent (un, g.2) mm0 i := by rw [hF]; dsimp only; rw [if_neg (by omega)]; rw [if_neg (by omega)]; rw [if_neg (by omega)]; rw [if_pos (by omega)]
      rw [e] at ha
      refine at_geo (g := (un, g.2)) (h := (U, g.2)) (fun k => 20 ≤ k ∧ k < 37) rfl (fun k hk => ?_) (rf_20 i h) ha
      show un k = U k
      rw [hU]; dsimp only; rw [if_neg (by omega)]; rw [if_neg (by omega)]; rw [if_neg (by omega)]; rw [if_pos (by omega)]
    · have e : F i = ent (us, g.2) mm0 i := by rw [hF]; dsimp only; rw [if_neg (by omega)]; rw [if_neg (by omega)]; rw [if_neg (by omega)]; rw [if_neg (by omega)]; rw [if_pos (by omega)]
      rw [e] at ha
      refine at_geo (g := (us, g.2)) (h := (U, g.2)) (fun k => 37 ≤ k ∧ k < 46) rfl (fun k hk => ?_) (rf_37 i h) ha
      show us k = U k
      rw [hU]; dsimp only; rw [if_neg (by omega)]; rw [if_neg (by omega)]; rw [if_neg (by omega)]; rw [if_neg (by omega)]; rw [if_pos (by omega)]
    · obtain rfl : i = 46 := by omega
      have ha : H[U 46]? = some (vp_cell (acls g 3) (2, .inr (.inr (.inr (.inr (va_up (va_up (fun _ => none) 0 (some (ua 47))) 1 (some (uz 56)))))))) := by rw [hF] at ha; exact ha
      have e : vp_cell (acls g 3) (2, .inr (.inr (.inr (.inr (va_up (va_up (fun _ => none) 0 (some (ua 47))) 1 (some (uz 56))))))) = vp_cell (acls (U, g.2) 3) (2, acon (U, g.2) mm0 46 3) := by
        unfold acon
        rw [if_pos rfl]
        rw [vp_cell_q, vp_cell_q, show acls (U, g.2) 3 = acls g 3 from rfl]
        refine arrV_congr (fun j hj => ?_)
        rcases (by omega : j = 0 ∨ j = 1) with rfl | rfl <;> (rw [hU]; rfl)
      rw [e] at ha
      exact ha
    · have e : F i = ent (ua, g.2) mm0 i := by rw [hF]; dsimp only; rw [if_neg (by omega)]; rw [if_neg (by omega)]; rw [if_neg (by omega)]; rw [if_neg (by omega)]; rw [if_neg (by omega)]; rw [if_neg (by omega)]; rw [if_pos (by omega)]
      rw [e] at ha
      refine at_geo (g := (ua, g.2)) (h := (U, g.2)) (fun k => 47 ≤ k ∧ k < 56) rfl (fun k hk => ?_) (rf_47 i h) ha
      show ua k = U k
      rw [hU]; dsimp only; rw [if_neg (by omega)]; rw [if_neg (by omega)]; rw [if_neg (by omega)]; rw [if_neg (by omega)]; rw [if_neg (by omega)]; rw [if_neg (by omega)]; rw [if_pos (by omega)]
    · have e : F i = ent (uz, g.2) mm0 i := by rw [hF]; dsimp only; rw [if_neg (by omega)]; rw [if_neg (by omega)]; rw [if_neg (by omega)]; rw [if_neg (by omega)]; rw [if_neg (by omega)]; rw [if_neg (by omega)]; rw [if_neg (by omega)]; rw [if_pos (by omega)]
      rw [e] at ha
      refine at_geo (g := (uz, g.2)) (h := (U, g.2)) (fun k => 56 ≤ k ∧ k < 65) rfl (fun k hk => ?_) (rf_56 i h) ha
      show uz k = U k
      rw [hU]; dsimp only; rw [if_neg (by omega)]; rw [if_neg (by omega)]; rw [if_neg (by omega)]; rw [if_neg (by omega)]; rw [if_neg (by omega)]; rw [if_neg (by omega)]; rw [if_neg (by omega)]; rw [if_pos (by omega)]
    · have e : F i = ent (ub, g.2) mm0 i := by rw [hF]; dsimp only; rw [if_neg (by omega)]; rw [if_neg (by omega)]; rw [if_neg (by omega)]; rw [if_neg (by omega)]; rw [if_neg (by omega)]; rw [if_neg (by omega)]; rw [if_neg (by omega)]; rw [if_neg (by omega)]; rw [if_pos (by omega)]
      rw [e] at ha
      refine at_geo (g := (ub, g.2)) (h := (U, g.2)) (fun k => 65 ≤ k ∧ k < 69) rfl (fun k hk => ?_) (rf_65 i h) ha
      show ub k = U k
      rw [hU]; dsimp only; rw [if_neg (by omega)]; rw [if_neg (by omega)]; rw [if_neg (by omega)]; rw [if_neg (by omega)]; rw [if_neg (by omega)]; rw [if_neg (by omega)]; rw [if_neg (by omega)]; rw [if_neg (by omega)]; rw [if_pos (by omega)]
    · have e : F i = ent (uw, g.2) mm0 i := by rw [hF]; dsimp only; rw [if_neg (by omega)]; rw [if_neg (by omega)]; rw [if_neg (by omega)]; rw [if_neg (by omega)]; rw [if_neg (by omega)]; rw [if_neg (by omega)]; rw [if_neg (by omega)]; rw [if_neg (by omega)]; rw [if_neg (by omega)]; rw [if_pos (by omega)]
      rw [e] at ha
      refine at_geo (g := (uw, g.2)) (h := (U, g.2)) (fun k => 69 ≤ k ∧ k < 72) rfl (fun k hk => ?_) (rf_69 i h) ha
      show uw k = U k
      rw [hU]; dsimp only; rw [if_neg (by omega)]; rw [if_neg (by omega)]; rw [if_neg (by omega)]; rw [if_neg (by omega)]; rw [if_neg (by omega)]; rw [if_neg (by omega)]; rw [if_neg (by omega)]; rw [if_neg (by omega)]; rw [if_neg (by omega)]; rw [if_pos (by omega)]
    · have e : F i = ent (uo, g.2) mm0 i := by rw [hF]; dsimp only; rw [if_neg (by omega)]; rw [if_neg (by omega)]; rw [if_neg (by omega)]; rw [if_neg (by omega)]; rw [if_neg (by omega)]; rw [if_neg (by omega)]; rw [if_neg (by omega)]; rw [if_neg (by omega)]; rw [if_neg (by omega)]; rw [if_neg (by omega)]; rw [if_pos (by omega)]
      rw [e] at ha
      refine at_geo (g := (uo, g.2)) (h := (U, g.2)) (fun k => 72 ≤ k ∧ k < 77) rfl (fun k hk => ?_) (rf_72 i h) ha
      show uo k = U k
      rw [hU]; dsimp only; rw [if_neg (by omega)]; rw [if_neg (by omega)]; rw [if_neg (by omega)]; rw [if_neg (by omega)]; rw [if_neg (by omega)]; rw [if_neg (by omega)]; rw [if_neg (by omega)]; rw [if_neg (by omega)]; rw [if_neg (by omega)]; rw [if_neg (by omega)]; rw [if_pos (by omega)]
    · have e : F i = ent (ud, g.2) mm0 i := by rw [hF]; dsimp only; rw [if_neg (by omega)]; rw [if_neg (by omega)]; rw [if_neg (by omega)]; rw [if_neg (by omega)]; rw [if_neg (by omega)]; rw [if_neg (by omega)]; rw [if_neg (by omega)]; rw [if_neg (by omega)]; rw [if_neg (by omega)]; rw [if_neg (by omega)]; rw [if_neg (by omega)]; 
      rw [e] at ha
      refine at_geo (g := (ud, g.2)) (h := (U, g.2)) (fun k => 77 ≤ k ∧ k < 79) rfl (fun k hk => ?_) (rf_77 i h) ha
      show ud k = U k
      rw [hU]; dsimp only; rw [if_neg (by omega)]; rw [if_neg (by omega)]; rw [if_neg (by omega)]; rw [if_neg (by omega)]; rw [if_neg (by omega)]; rw [if_neg (by omega)]; rw [if_neg (by omega)]; rw [if_neg (by omega)]; rw [if_neg (by omega)]; rw [if_neg (by omega)]; rw [if_neg (by omega)]; 
  obtain ⟨hP, hD⟩ := perm_world (n := 79) pi7 pi7_ok hq hw.1 hw.2
  refine z7 p l e R s m args below meth c0 (U, g.2) A s.heap _ _ Q H locs ls ⟨C.1, C.2.1, C.2.2.1, C.2.2.2.1, C.2.2.2.2.1, ⟨C.2.2.2.2.2.1, trivial⟩, fun k hk => ?_, by omega, by omega, by omega, by omega⟩ ⟨hP, hD.weaken (fun _ _ _ _ => trivial), mm0_R⟩ hI.2.2.1 ⟨hl.1, hl.2.1, fun i v hv => ?_⟩ ?_
  · exact hD.2 k _ (by rw [List.getElem?_map, List.getElem?_range hk]; rfl)
  · match i, hv with
    | 0, hv => cases hv; rw [show tr (U, g.2) (.ref 0) = .ref h0 from by show Value.ref (U 0) = _; rw [hU]; rfl]; exact lv_at hl 1 rfl
    | 1, hv => cases hv; exact lv_at hl 0 rfl
    | n + 2, hv => simp at hv
  · rintro v σ' pc' H' locs' ls' ⟨rfl, rfl⟩ hr hW' hS'
    refine W.widen (k := 78) (n := 5408) (by omega) (by omega) ?_
    refine hret U pc' H' locs' ls' (by rw [hU]; rfl) ?_ ?_ hS' hr
    · rw [blk_z]; exact hW'.1
    · rw [blk_z]
      refine zcellsG_D hW'.2.1 (fun k hk => ?_)
      exact hD.2 k _ (by rw [List.getElem?_map, List.getElem?_range hk]; rfl)
theorem c_X7_init : CtMet yX7_init cX7_init 2 7 0 79 78 5408 2 70 (beginM mm0 3 0) := ct_met (by decide) rfl (by decide) rfl r_X7_init
