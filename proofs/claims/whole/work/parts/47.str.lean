/-! the String constants: their length, their chars -/
theorem gs_val : Cond.fieldLink RJ0 9 "java/lang/String" "value" "[B" ∈ G := memG 1589 (by decide +kernel) rfl
theorem gs_cod : Cond.fieldLink RJ0 15 "java/lang/String" "coder" "B" ∈ G := memG 1590 (by decide +kernel) rfl
theorem gs_com : Cond.fieldLink RJ0 38 "java/lang/String" "COMPACT_STRINGS" "Z" ∈ G := memG 505 (by decide +kernel) rfl
theorem gs_sio : Cond.fieldLink RJ0 1053 "jdk/internal/util/Preconditions" "SIOOBE_FORMATTER" "Ljava/util/function/BiFunction;" ∈ G := memG 521 (by decide +kernel) rfl
def sB (i : Nat) (j : Nat) : Int := ((sbyt.getD i []).getD j 0).toInt
def sL (i : Nat) : Nat := slen.getD i 0
theorem sB_and : ∀ i, i < 8 → ∀ j, j < sL i → band (sB i j) 255 = sB i j ∧ 97 ≤ sB i j ∧ sB i j ≤ 122 := by decide +kernel
theorem sL_R : ∀ i, i < 8 → 3 ≤ sL i ∧ sL i ≤ 5 := by decide +kernel
section EVS
variable {own : String} {cc : ByteArray} {nL fr lo : Nat} {Φ : Option Value → Mem → Prop} {pc : Nat} {ab : List (Option Value)} {st : List Value} {σ : Mem}
theorem ev_sval {i : Nat} (hi : i < 8) (hd : decode cc pc = .ok (.getfield 9, 3)) (ho : own = RJ0) (k : Ev own cc nL fr lo Φ (pc + 3) ab (.ref (2000 + i) :: st) σ) : Ev own cc nL fr lo Φ pc ab (.ref (1000 + i) :: st) σ := by
  intro p l e R s m args below meth c g A H0 cells slots Q H locs ls C hW hS hL hret
  subst ho
  obtain ⟨cf, kk, fi, f, cell, h1, h2, h3, h4, h5, h6⟩ := (C.2.2.2.2.2.1.2.2.2.1.1 i hi).2.2.1.kept hS.2.1
  exact W.getf C.1 C.2.1 C.2.2.2.1 (C.2.2.2.2.1 _ gs_val) h1 h2 h3 h4 h5 rfl rfl hd (k p l e R s m args below meth c g A H0 cells slots Q H locs ls C hW hS hL hret)
theorem ev_scod {i : Nat} (hi : i < 8) (hd : decode cc pc = .ok (.getfield 15, 3)) (ho : own = RJ0) (k : Ev own cc nL fr lo Φ (pc + 3) ab (.int (iI 0) :: st) σ) : Ev own cc nL fr lo Φ pc ab (.ref (1000 + i) :: st) σ := by
  intro p l e R s m args below meth c g A H0 cells slots Q H locs ls C hW hS hL hret
  subst ho
  obtain ⟨cf, kk, fi, f, cell, h1, h2, h3, h4, h5, h6⟩ := (C.2.2.2.2.2.1.2.2.2.1.1 i hi).2.1.kept hS.2.1
  exact W.getf C.1 C.2.1 C.2.2.2.1 (C.2.2.2.2.1 _ gs_cod) h1 h2 h3 h4 h5 rfl rfl hd (k p l e R s m args below meth c g A H0 cells slots Q H locs ls C hW hS hL hret)
theorem ev_scom (hd : decode cc pc = .ok (.getstatic 38, 3)) (ho : own = RJ0) (k : Ev own cc nL fr lo Φ (pc + 3) ab (.int (iI 1) :: st) σ) : Ev own cc nL fr lo Φ pc ab st σ := by
  intro p l e R s m args below meth c g A H0 cells slots Q H locs ls C hW hS hL hret
  subst ho
  obtain ⟨cf, kf, fi, f, a, cell, h1, h2, h3, h4, h5, h6, h7, h8⟩ := C.2.2.2.2.2.1.2.2.2.2.1.kept hS.2.1
  exact W.gets C.1 C.2.1 C.2.2.2.1 (C.2.2.2.2.1 _ gs_com) h1 h2 h3 h4 h5 (fun e => by rw [e] at h6; cases h6) h7 rfl hd (k p l e R s m args below meth c g A H0 cells slots Q H locs ls C hW hS hL hret)
theorem ev_slen {i : Nat} (hi : i < 8) (hd : decode cc pc = .ok (.arraylength, 1)) (k : Ev own cc nL fr lo Φ (pc + 1) ab (.int (iI (sL i)) :: st) σ) : Ev own cc nL fr lo Φ pc ab (.ref (2000 + i) :: st) σ := by
  intro p l e R s m args below meth c g A H0 cells slots Q H locs ls C hW hS hL hret
  obtain ⟨cell, h1, h2, h3, h4, h5, h6, h7⟩ := (C.2.2.2.2.2.1.2.2.2.1.1 i hi).2.2.2.kept hS.2.1
  refine W.alen (n := iI (sL i)) C.1 C.2.1 h1 h2 ?_ rfl rfl hd (k p l e R s m args below meth c g A H0 cells slots Q H locs ls C hW hS hL hret)
  rw [h5, iI_nat]; rfl
theorem ev_sbal {i : Nat} {j : Nat} (hi : i < 8) (hj : j < sL i) (hd : decode cc pc = .ok (.baload, 1)) (k : Ev own cc nL fr lo Φ (pc + 1) ab (.int (iI (sB i j)) :: st) σ) : Ev own cc nL fr lo Φ pc ab (.int (iI j) :: .ref (2000 + i) :: st) σ := by
  intro p l e R s m args below meth c g A H0 cells slots Q H locs ls C hW hS hL hret
  obtain ⟨cell, h1, h2, h3, h4, h5, h6, h7⟩ := (C.2.2.2.2.2.1.2.2.2.1.1 i hi).2.2.2.kept hS.2.1
  have hL5 := (sL_R i hi).2
  have hL4 : sL i ≤ cell.slots.size := h4
  have hin := iI_vin (z := (j : Int)) (n := cell.slots.size) (by omega)
  refine W.bald (v := .int (iI (sB i j))) C.1 C.2.1 h1 h2 h3 ?_ ?_ rfl rfl hd (k p l e R s m args below meth c g A H0 cells slots Q H locs ls C hW hS hL hret)
  · intro q
    rw [iI_clamp (by omega) (by omega)] at q
    rcases q with q | q
    · have := (iI_lt (a := (j : Int)) (b := 0) ⟨by omega, by omega⟩ inR0).mp q
      omega
    · omega
  · rw [iI_clamp (by omega) (by omega), h6 _ (by show j < sL i; exact hj)]
    show some (Value.int ((sbyt.getD i []).getD j 0)) = _
    rw [show iI (sB i j) = (sbyt.getD i []).getD j 0 from iI_of _]
theorem ev_i2c {x v : Int32} (hd : decode cc pc = .ok (.i2c, 1)) (hv : (x.toUInt32 % 65536).toInt32 = v) (k : Ev own cc nL fr lo Φ (pc + 1) ab (.int v :: st) σ) : Ev own cc nL fr lo Φ pc ab (.int x :: st) σ := by
  intro p l e R s m args below meth c g A H0 cells slots Q H locs ls C hW hS hL hret
  exact lv_i2c C.1 C.2.1 hd hv (k p l e R s m args below meth c g A H0 cells slots Q H locs ls C hW hS hL hret)
theorem ev_pop {v : Value} (hd : decode cc pc = .ok (.pop, 1)) (hv : v.category = 1) (k : Ev own cc nL fr lo Φ (pc + 1) ab st σ) : Ev own cc nL fr lo Φ pc ab (v :: st) σ := by
  intro p l e R s m args below meth c g A H0 cells slots Q H locs ls C hW hS hL hret
  exact lv_pop C.1 C.2.1 hd ((tr_cat g v).trans hv) (k p l e R s m args below meth c g A H0 cells slots Q H locs ls C hW hS hL hret)
theorem ev_ldcs {i idx : Nat} (hi : i < 8) (ho : own = RX3) (hx : sidx.getD i 0 = idx) (hd : decode cc pc = .ok (.ldc idx, 2)) (k : Ev own cc nL fr lo Φ (pc + 2) ab (.ref (1000 + i) :: st) σ) : Ev own cc nL fr lo Φ pc ab st σ := by
  intro p l e R s m args below meth c g A H0 cells slots Q H locs ls C hW hS hL hret
  subst ho
  subst hx
  exact va_ldcS C.1 C.2.1 C.2.2.2.1 (C.2.2.2.2.2.1.2.2.1 i hi) hd (k p l e R s m args below meth c g A H0 cells slots Q H locs ls C hW hS hL hret)
/-- a call of a String constant's method -/
theorem ev_callK {y : MethodName} {cc' : ByteArray} {nL' fr' lo' n i idx : Nat} {ret : Option FieldType} {av rest : List Value} {Ψ : Option Value → Mem → Prop} (hi : i < 8) (hy : y.cls = RJ0) (hd : decode cc pc = .ok (.invokevirtual idx, 3)) (hK : KV own idx y cc' nL' ret n) (hC : Con y cc' nL' ret fr' lo' (.ref (1000 + i) :: av) σ Ψ) (hst : st = av.reverse ++ .ref (1000 + i) :: rest) (hn : av.length = n) (hroom : fr' + 1 ≤ fr ∧ 8 + (nL' + 11) + lo' ≤ lo) (hcat : (rest.map fun v => v.category).sum ≤ 8)
    (kk : ∀ v σ', Ψ v σ' → Ev own cc nL fr lo Φ (pc + 3) ab (v.toList ++ rest) σ') : Ev own cc nL fr lo Φ pc ab st σ := by
  intro p l e R s m args below meth c0 g A H0 cells slots Q H locs ls C hW hS hL hret
  obtain ⟨k1, k2, k3, k4, k5, k6, k7, k8⟩ := hK
  have hts := C.2.2.2.2.1
  have hgood : GoodIn G (wsV own idx y.cls y (Cond.code y cc' nL' ret :: G)) := by
    intro w hw
    have hw' : w ∈ G := by
      unfold wsV at hw
      simp only [List.cons_append, List.nil_append, List.mem_cons] at hw
      rcases hw with h | h | h | h | h | h
      · rw [h]; exact k1
      · rw [h]; exact k2
      · rw [h]; exact k3
      · rw [h]; exact k4
      · rw [h]; exact k5
      · exact h
    exact ⟨hw', good_of_word (memG' hw').2⟩
  refine ev_after (a := (Value.ref (g.1 (1000 + i)) :: av.map (tr g)).toArray) C hW hS hL hret ?_ kk
  subst hst
  obtain ⟨cell, r1, r2, r3, -⟩ := (C.2.2.2.2.2.1.2.2.2.1.1 i hi).1.kept hS.2.1
  refine va_runV (C := y.cls) (b := g.1 (1000 + i)) (As := av.map (tr g)) (rest := rest.map (tr g)) ⟨C.1, C.2.1, C.2.2.1, C.2.2.2.1, hts⟩ (hC l g) (cwV n hts hgood rfl rfl rfl ⟨rfl, k6, k7, k8⟩ ⟨?_, ?_⟩) ⟨BpG_blind g σ _, ⟨cell, r1, r2, by rw [hy]; exact r3⟩, fun U hU hWU => ⟨rfl, by rw [hU]; exact hW, va_K.moved hWU.alike C.2.2.2.2.2.1.1, by rw [hU]; exact C.2.2.2.2.2.1.2.to hWU hS (fun q hq => by obtain ⟨k, hk, rfl⟩ := hq; exact C.2.2.2.2.2.2.1 k hk)⟩⟩ rfl (by rw [List.length_map]; exact hn) hL.1 ?_ ?_ hd ⟨by have := C.2.2.2.2.2.2.2.2.2.1; omega, by have := C.2.2.2.2.2.2.2.2.2.2; omega⟩
  · have := C.2.2.2.2.2.2.2.1
    show fr' + 1 ≤ _
    omega
  · have := C.2.2.2.2.2.2.2.2.1
    show 8 + (nL' + 11) + lo' ≤ _
    omega
  · show (av.reverse ++ .ref (1000 + i) :: rest).map (tr g) = _
    rw [List.map_append, List.map_reverse]
    rfl
  · refine lv_room ?_
    rw [tr_cats]
    exact hcat
end EVS
/-- J3's checkIndex, with any value for the formatter, which is not looked at -/
theorem j3_ok (l : Launch) (g : Geo) (σ : Mem) (x n : Int) (v : Value) (hv : v.category = 1) (hx : 0 ≤ x) (hxn : x < n) (hn : n ≤ 1000) : Met l yJ3_checkIndex_8e157 (Cond.code yJ3_checkIndex_8e157 cJ3_checkIndex_8e157 3 (some .int) :: G) { frames := 0, cells := 0, slots := 0, locals := 0 } (va_Pc [.int (iI x), .int (iI n), v] (BpG g σ)) (QcG g (AnsI x σ)) 0 0 (gA g) := by
  refine Met.ofW (cc := cJ3_checkIndex_8e157) (maxL := 3) (ret := some .int) (by decide) rfl ?_
  intro p e s m args below meth c s₁ B hml hP
  obtain ⟨rfl, hW, hK, hXA⟩ := hP
  have hts : ∀ w ∈ (Cond.code yJ3_checkIndex_8e157 cJ3_checkIndex_8e157 3 (some .int) :: G), w.before [Value.int (iI x), .int (iI n), v].toArray s = true := atoms_spec B.pre
  have hown : s.vm.findClass RJ3 = some m.cls := findClass_of_methodNamed B.named
  rw [lg_entry_eq]
  have hsl : lg_sl [Value.int (iI x), .int (iI n), v] = [.val (.int (iI x)), .val (.int (iI n)), .val v] := by
    have e : (if v.category = 2 then [Slot.val v, Slot.second] else [Slot.val v]) = [Slot.val v] := if_neg (by rw [hv]; decide)
    show [Slot.val (.int (iI x))] ++ ([Slot.val (.int (iI n))] ++ ((if v.category = 2 then [Slot.val v, Slot.second] else [Slot.val v]) ++ [])) = _
    rw [e]; rfl
  have hlen : (lg_sl [Value.int (iI x), .int (iI n), v]).length ≤ 3 := by rw [hsl]; exact Nat.le_refl 3
  have hl := lv_entry [Value.int (iI x), .int (iI n), v] (n := 3) hlen
  have hLR : LR g ((lg_sl [Value.int (iI x), .int (iI n), v] ++ List.replicate (3 - (lg_sl [Value.int (iI x), .int (iI n), v]).length) Slot.unset).toArray) 3 [some (.int (iI x)), some (.int (iI n)), none] := by
    refine ⟨hl.1, hl.2.1, fun i w hi => ?_⟩
    rw [hsl]
    match i, hi with
    | 0, hi => cases hi; rfl
    | 1, hi => cases hi; rfl
    | 2, hi => cases hi
    | k + 3, hi => simp at hi
  have hEv : Ev RJ3 cJ3_checkIndex_8e157 3 0 0 (AnsI x σ) 0 [some (.int (iI x)), some (.int (iI n)), none] [] σ := by
    refine ev_iload_n dJ3_checkIndex_8e157_0 rfl ?_
    refine ev_if_lt (tgt := 9) dJ3_checkIndex_8e157_1 (by decide) ⟨by omega, by omega⟩ (fun h => absurd h (by omega)) (fun _ => ?_)
    refine ev_iload_n dJ3_checkIndex_8e157_4 rfl ?_
    refine ev_iload_n dJ3_checkIndex_8e157_5 rfl ?_
    refine ev_icmp_lt (tgt := 16) dJ3_checkIndex_8e157_6 (by decide) ⟨by omega, by omega⟩ ⟨by omega, by omega⟩ (fun _ => ?_) (fun h => absurd hxn h)
    refine ev_iload_n dJ3_checkIndex_8e157_16 rfl ?_
    refine ev_ireturn dJ3_checkIndex_8e157_17 ⟨rfl, rfl⟩
  refine hEv p l e _ s m _ below meth c g (gA g) s.heap 0 0 _ s.heap [] _ ⟨B.exec, B.bytes, hml, hown, fun w hw => hts w (List.mem_cons_of_mem _ hw), ⟨hK, hXA⟩, fun k hk => ⟨k, hk, rfl⟩, Nat.le_refl _, Nat.le_refl _, Nat.zero_le _, Nat.zero_le _⟩ hW va_S.rf hLR ?_
  rintro v' σ' pc' H' locs' ls' ⟨rfl, rfl⟩ hr hW' hS'
  exact W.zret B.exec B.bytes B.returns rfl (fun t ht _ => ⟨⟨some (.int (iI x)), σ', rfl, ⟨rfl, rfl⟩, by rw [ht]; exact hW'⟩, hS'.F ht⟩) hS'.2.2 hr
theorem k_ci0 (σ : Mem) (x n : Int) (hx : 0 ≤ x) (hxn : x < n) (hn : n ≤ 1000) : Con yJ0_checkIndex_df160 cJ0_checkIndex_df160 2 none 2 70 [.int (iI x), .int (iI n)] σ (AnsV σ) := by
  refine con_of (by decide) rfl (Nat.le_of_ble_eq_true rfl) (ok_V rfl) ?_
  refine ev_iload_n dJ0_checkIndex_df160_0 rfl ?_
  refine ev_iload_n dJ0_checkIndex_df160_1 rfl ?_
  intro p l e R s m args below meth c g A H0 cells slots Q H locs ls C hW hS hL hret
  obtain ⟨v, hv, hZ⟩ : ∃ v : Value, v.category = 1 ∧ va_Z "jdk/internal/util/Preconditions" "SIOOBE_FORMATTER" "Ljava/util/function/BiFunction;" v A s H := by
    rcases C.2.2.2.2.2.1.2.2.2.2.2.kept hS.2.1 with h | ⟨t, h⟩
    · exact ⟨.null, rfl, h⟩
    · exact ⟨.ref t, rfl, h⟩
  obtain ⟨cf, kf, fi, f, a, cell, h1, h2, h3, h4, h5, h6, h7, h8⟩ := hZ
  refine W.gets C.1 C.2.1 C.2.2.2.1 (C.2.2.2.2.1 _ gs_sio) h1 h2 h3 h4 h5 (fun e => by rw [e] at h6; cases h6) h7 rfl dJ0_checkIndex_df160_2 ?_
  have hts := C.2.2.2.2.1
  obtain ⟨k1, k2, k4, k5, k6, k7, k8⟩ := ks_J0_1059
  have hgood : GoodIn G (Cond.code yJ3_checkIndex_8e157 cJ3_checkIndex_8e157 3 (some .int) :: G) := goodG (fun _ h => h) k5
  refine ev_after (rest := []) (Ψ := AnsI x σ) (a := [Value.int (iI x), .int (iI n), v].toArray) C hW hS hL hret ?_ ?_
  · refine va_runS (As := [Value.int (iI x), .int (iI n), v]) (rest := []) ⟨C.1, C.2.1, C.2.2.1, C.2.2.2.1, hts⟩ (j3_ok l g σ x n v hv hx hxn hn) ⟨callB_of 3 hts hgood rfl rfl rfl (hts _ k4) (hts _ k1) ⟨k6, k7, k8⟩ ⟨?_, ?_⟩, hts _ k2⟩ ⟨BpG_blind g σ _, fun U hU hWU => ⟨rfl, by rw [hU]; exact hW, va_K.moved hWU.alike C.2.2.2.2.2.1.1, by rw [hU]; exact C.2.2.2.2.2.1.2.to hWU hS (fun q hq => by obtain ⟨k, hk, rfl⟩ := hq; exact C.2.2.2.2.2.2.1 k hk)⟩⟩ rfl rfl hL.1 rfl (lv_room (by decide)) dJ0_checkIndex_df160_5 ⟨by have := C.2.2.2.2.2.2.2.2.2.1; omega, by have := C.2.2.2.2.2.2.2.2.2.2; omega⟩
    · have := C.2.2.2.2.2.2.2.1
      show 0 + 1 ≤ _
      omega
    · have := C.2.2.2.2.2.2.2.2.1
      show 8 + (3 + 11) + 0 ≤ _
      omega
  · rintro v τ ⟨rfl, rfl⟩
    refine ev_pop dJ0_checkIndex_df160_8 rfl ?_
    exact ev_return dJ0_checkIndex_df160_9 ⟨rfl, rfl⟩
theorem chk : ∀ i, i < 8 → ∀ j, j < sL i → ((iI (sB i j)).toUInt32 % 65536).toInt32 = iI (sB i j) ∧ narrow .char (.int (iI (sB i j))) = .int (iI (sB i j)) := by decide +kernel
theorem k_ch1 (σ : Mem) (i j : Nat) (hi : i < 8) (hj : j < sL i) : Con yJ1_charAt_3b067 cJ1_charAt_3b067 2 (some .char) 3 91 [.ref (2000 + i), .int (iI j)] σ (AnsI (sB i j) σ) := by
  have hL := (sL_R i hi).2
  have hB := sB_and i hi j hj
  have hc := chk i hi j hj
  refine con_of (by decide) rfl (Nat.le_of_ble_eq_true rfl) (by rintro v τ ⟨rfl, -⟩; exact ⟨.char, rfl, hc.2⟩) ?_
  refine ev_iload_n dJ1_charAt_3b067_0 rfl ?_
  refine ev_aload_n dJ1_charAt_3b067_1 rfl ?_
  refine ev_slen hi dJ1_charAt_3b067_2 ?_
  refine ev_callSV dJ1_charAt_3b067_3 ks_J1_9 (k_ci0 σ j (sL i) (by omega) (by omega) (by omega)) rfl rfl ⟨by decide, by decide⟩ (Nat.le_of_ble_eq_true rfl) ?_
  refine ev_aload_n dJ1_charAt_3b067_6 rfl ?_
  refine ev_iload_n dJ1_charAt_3b067_7 rfl ?_
  refine ev_sbal hi hj dJ1_charAt_3b067_8 ?_
  refine ev_sipush dJ1_charAt_3b067_9 (by decide) ?_
  refine ev_iand dJ1_charAt_3b067_12 ?_
  rw [hB.1]
  refine ev_i2c dJ1_charAt_3b067_13 hc.1 ?_
  exact ev_ireturn dJ1_charAt_3b067_14 ⟨rfl, rfl⟩
theorem k_lat (σ : Mem) (i : Nat) (hi : i < 8) : Con yJ0_isLatin1_aae02 cJ0_isLatin1_aae02 1 (some .boolean) 0 0 [.ref (1000 + i)] σ (AnsI 1 σ) := by
  refine con_of (by decide) rfl (Nat.le_of_ble_eq_true rfl) (ok_Z rfl (Or.inr rfl)) ?_
  refine ev_scom dJ0_isLatin1_aae02_0 rfl ?_
  refine ev_if_eq (tgt := 17) dJ0_isLatin1_aae02_3 (by decide) (by decide) (fun h => absurd h (by decide)) (fun _ => ?_)
  refine ev_aload_n dJ0_isLatin1_aae02_6 rfl ?_
  refine ev_scod hi dJ0_isLatin1_aae02_7 rfl ?_
  refine ev_if_ne (tgt := 17) dJ0_isLatin1_aae02_10 (by decide) (by decide) (fun h => absurd rfl h) (fun _ => ?_)
  refine ev_iconst dJ0_isLatin1_aae02_13 ?_
  refine ev_goto (tgt := 18) dJ0_isLatin1_aae02_14 (by decide) ?_
  exact ev_ireturn dJ0_isLatin1_aae02_18 ⟨rfl, rfl⟩
theorem k_cod (σ : Mem) (i : Nat) (hi : i < 8) : Con yJ0_coder_7d493 cJ0_coder_7d493 1 (some .byte) 0 0 [.ref (1000 + i)] σ (AnsI 0 σ) := by
  refine con_of (by decide) rfl (Nat.le_of_ble_eq_true rfl) (by rintro v τ ⟨rfl, -⟩; exact ⟨.byte, rfl, rfl⟩) ?_
  refine ev_scom dJ0_coder_7d493_0 rfl ?_
  refine ev_if_eq (tgt := 13) dJ0_coder_7d493_3 (by decide) (by decide) (fun h => absurd h (by decide)) (fun _ => ?_)
  refine ev_aload_n dJ0_coder_7d493_6 rfl ?_
  refine ev_scod hi dJ0_coder_7d493_7 rfl ?_
  refine ev_goto (tgt := 14) dJ0_coder_7d493_10 (by decide) ?_
  exact ev_ireturn dJ0_coder_7d493_14 ⟨rfl, rfl⟩
theorem sLshr : ∀ i, i < 8 → bshr (sL i) 0 = sL i := by decide +kernel
theorem k_slen (σ : Mem) (i : Nat) (hi : i < 8) : Con yJ0_length_8abf5 cJ0_length_8abf5 1 (some .int) 1 20 [.ref (1000 + i)] σ (AnsI (sL i) σ) := by
  refine con_of (by decide) rfl (Nat.le_of_ble_eq_true rfl) (ok_I rfl) ?_
  refine ev_aload_n dJ0_length_8abf5_0 rfl ?_
  refine ev_sval hi dJ0_length_8abf5_1 rfl ?_
  refine ev_slen hi dJ0_length_8abf5_4 ?_
  refine ev_aload_n dJ0_length_8abf5_5 rfl ?_
  refine ev_callK hi rfl dJ0_length_8abf5_6 kv_J0_335 (k_cod σ i hi) rfl rfl ⟨by decide, by decide⟩ (Nat.le_of_ble_eq_true rfl) ?_
  rintro v τ ⟨rfl, rfl⟩
  refine ev_ishr dJ0_length_8abf5_9 ?_
  rw [sLshr i hi]
  exact ev_ireturn dJ0_length_8abf5_10 ⟨rfl, rfl⟩
theorem k_chr (σ : Mem) (i j : Nat) (hi : i < 8) (hj : j < sL i) : Con yJ0_charAt_5068e cJ0_charAt_5068e 2 (some .char) 5 133 [.ref (1000 + i), .int (iI j)] σ (AnsI (sB i j) σ) := by
  have hc := chk i hi j hj
  refine con_of (by decide) rfl (Nat.le_of_ble_eq_true rfl) (by rintro v τ ⟨rfl, -⟩; exact ⟨.char, rfl, hc.2⟩) ?_
  refine ev_aload_n dJ0_charAt_5068e_0 rfl ?_
  refine ev_callK hi rfl dJ0_charAt_5068e_1 kv_J0_492 (k_lat σ i hi) rfl rfl ⟨by decide, by decide⟩ (Nat.le_of_ble_eq_true rfl) ?_
  rintro v τ ⟨rfl, rfl⟩
  refine ev_if_eq (tgt := 16) dJ0_charAt_5068e_4 (by decide) (by decide) (fun h => absurd h (by decide)) (fun _ => ?_)
  refine ev_aload_n dJ0_charAt_5068e_7 rfl ?_
  refine ev_sval hi dJ0_charAt_5068e_8 rfl ?_
  refine ev_iload_n dJ0_charAt_5068e_11 rfl ?_
  refine ev_callSI dJ0_charAt_5068e_12 ks_J0_495 (k_ch1 _ i j hi hj) rfl rfl ⟨by decide, by decide⟩ (Nat.le_of_ble_eq_true rfl) ?_
  exact ev_ireturn dJ0_charAt_5068e_15 ⟨rfl, rfl⟩
