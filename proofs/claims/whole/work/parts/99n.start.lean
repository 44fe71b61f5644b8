/-! what the start gives -/
theorem tn_X2_79 : Cond.methodLinkNest RX2 79 yX7_has "RopePost" ∈ lw_tbl := List.mem_append_right (k2_sels lw_privs) (List.mem_append_right _ (List.mem_append_right _ (List.mem_append_left _ (List.mem_of_getElem? (i := 117) (by decide +kernel)))))
theorem tn_X4_50 : Cond.methodLinkNest RX4 50 yX7_has "RopePost" ∈ lw_tbl := List.mem_append_right (k2_sels lw_privs) (List.mem_append_right _ (List.mem_append_right _ (List.mem_append_right _ (List.mem_append_left _ (List.mem_of_getElem? (i := 23) (by decide +kernel))))))
theorem tn_X1_31 : Cond.methodLinkNest RX1 31 yX7_has "RopePost" ∈ lw_tbl := List.mem_append_right (k2_sels lw_privs) (List.mem_append_right _ (List.mem_append_right _ (List.mem_append_right _ (List.mem_append_left _ (List.mem_of_getElem? (i := 58) (by decide +kernel))))))
theorem ti_9 : Cond.methodLinkNest RX7 9 yX3_init "RopePost" ∈ lw_tbl := List.mem_append_right (k2_sels lw_privs) (List.mem_append_left _ (List.mem_of_getElem? (i := 28) (by decide +kernel)))
theorem ti_18 : Cond.methodLinkNest RX7 18 yX2_init "RopePost" ∈ lw_tbl := List.mem_append_right (k2_sels lw_privs) (List.mem_append_left _ (List.mem_of_getElem? (i := 60) (by decide +kernel)))
theorem ti_28 : Cond.methodLinkNest RX7 28 yX5_init "RopePost" ∈ lw_tbl := List.mem_append_right (k2_sels lw_privs) (List.mem_append_left _ (List.mem_of_getElem? (i := 175) (by decide +kernel)))
theorem ti_43 : Cond.methodLinkNest RX7 43 yX0_init "RopePost" ∈ lw_tbl := List.mem_append_right (k2_sels lw_privs) (List.mem_append_right _ (List.mem_append_left _ (List.mem_of_getElem? (i := 3) (by decide +kernel))))
theorem ti_50 : Cond.methodLinkNest RX7 50 yX6_init "RopePost" ∈ lw_tbl := List.mem_append_right (k2_sels lw_privs) (List.mem_append_right _ (List.mem_append_left _ (List.mem_of_getElem? (i := 26) (by decide +kernel))))
theorem ti_57 : Cond.methodLinkNest RX7 57 yX4_init "RopePost" ∈ lw_tbl := List.mem_append_right (k2_sels lw_privs) (List.mem_append_right _ (List.mem_append_left _ (List.mem_of_getElem? (i := 44) (by decide +kernel))))
theorem ti_64 : Cond.methodLinkNest RX7 64 yX1_init "RopePost" ∈ lw_tbl := List.mem_append_right (k2_sels lw_privs) (List.mem_append_right _ (List.mem_append_left _ (List.mem_of_getElem? (i := 65) (by decide +kernel))))
theorem to_State : Cond.arrayOver (.object "RopePost$State") ∈ lw_tbl := List.mem_append_right (k2_sels lw_privs) (List.mem_append_right _ (List.mem_append_left _ (List.mem_of_getElem? (i := 0) (by decide +kernel))))
theorem ts_53 : Cond.stringRef RX3 53 "pole" ∈ lw_tbl := List.mem_append_right (k2_sels lw_privs) (List.mem_append_right _ (List.mem_append_left _ (List.mem_of_getElem? (i := 161) (by decide +kernel))))
theorem ts_72 : Cond.stringRef RX3 72 "rope" ∈ lw_tbl := List.mem_append_right (k2_sels lw_privs) (List.mem_append_right _ (List.mem_append_left _ (List.mem_of_getElem? (i := 234) (by decide +kernel))))
theorem ts_80 : Cond.stringRef RX3 80 "boy" ∈ lw_tbl := List.mem_append_right (k2_sels lw_privs) (List.mem_append_right _ (List.mem_append_right _ (List.mem_append_left _ (List.mem_of_getElem? (i := 3) (by decide +kernel)))))
theorem ts_88 : Cond.stringRef RX3 88 "load" ∈ lw_tbl := List.mem_append_right (k2_sels lw_privs) (List.mem_append_right _ (List.mem_append_right _ (List.mem_append_left _ (List.mem_of_getElem? (i := 12) (by decide +kernel)))))
theorem ts_166 : Cond.stringRef RX3 166 "plain" ∈ lw_tbl := List.mem_append_right (k2_sels lw_privs) (List.mem_append_right _ (List.mem_append_right _ (List.mem_append_left _ (List.mem_of_getElem? (i := 25) (by decide +kernel)))))
theorem ts_168 : Cond.stringRef RX3 168 "alive" ∈ lw_tbl := List.mem_append_right (k2_sels lw_privs) (List.mem_append_right _ (List.mem_append_right _ (List.mem_append_left _ (List.mem_of_getElem? (i := 26) (by decide +kernel)))))
theorem ts_170 : Cond.stringRef RX3 170 "level" ∈ lw_tbl := List.mem_append_right (k2_sels lw_privs) (List.mem_append_right _ (List.mem_append_right _ (List.mem_append_left _ (List.mem_of_getElem? (i := 27) (by decide +kernel)))))
theorem ts_172 : Cond.stringRef RX3 172 "long" ∈ lw_tbl := List.mem_append_right (k2_sels lw_privs) (List.mem_append_right _ (List.mem_append_right _ (List.mem_append_left _ (List.mem_of_getElem? (i := 28) (by decide +kernel)))))
theorem tl_CS : Cond.laysStatic "java/lang/String" "COMPACT_STRINGS" "Z" ∈ lw_tbl := List.mem_append_right (k2_sels lw_privs) (List.mem_append_right _ (List.mem_append_left _ (List.mem_of_getElem? (i := 175) (by decide +kernel))))
theorem tl_SF : Cond.laysStatic "jdk/internal/util/Preconditions" "SIOOBE_FORMATTER" "Ljava/util/function/BiFunction;" ∈ lw_tbl := List.mem_append_right (k2_sels lw_privs) (List.mem_append_right _ (List.mem_append_left _ (List.mem_of_getElem? (i := 191) (by decide +kernel))))
theorem tj_S : Cond.initialized "java/lang/String" ∈ lw_tbl := List.mem_append_right (k2_sels lw_privs) (List.mem_append_left _ (List.mem_of_getElem? (i := 12) (by decide +kernel)))
theorem tj_P : Cond.initialized "jdk/internal/util/Preconditions" ∈ lw_tbl := List.mem_append_right (k2_sels lw_privs) (List.mem_append_left _ (List.mem_of_getElem? (i := 14) (by decide +kernel)))
def GV : Cond := Jvm.Cond.and given_1 narrow_1
def stm (i : Nat) : Term := .string "RopePost$Reader" (sidx.getD i 0)
theorem gv_ex : ∀ i, i < 8 → Cond.exactly (stm i) "java/lang/String" ∈ flatC GV := by decide +kernel
theorem gv_co : ∀ i, i < 8 → Cond.eq (.field (stm i) "java/lang/String" "coder" "B") (.int 0) ∈ flatC GV := by decide +kernel
theorem gv_ar : ∀ i, i < 8 → Cond.arrayOf (.field (stm i) "java/lang/String" "value" "[B") .byte ∈ flatC GV := by decide +kernel
theorem gv_le : ∀ i, i < 8 → Cond.eq (.length (.field (stm i) "java/lang/String" "value" "[B")) (.int (Int32.ofNat (slen.getD i 0))) ∈ flatC GV := by decide +kernel
theorem gv_el : ∀ i, i < 8 → ∀ j, j < slen.getD i 0 → Cond.eq (.elem (.field (stm i) "java/lang/String" "value" "[B") (.int (Int32.ofNat j))) (.int ((sbyt.getD i []).getD j 0)) ∈ flatC GV := by decide +kernel
theorem gv_ne : ∀ i, i < 8 → ∀ j, j < 8 → i ≠ j → Cond.not (Cond.eq (stm i) (stm j)) ∈ flatC GV ∨ Cond.not (Cond.eq (stm j) (stm i)) ∈ flatC GV := by decide +kernel
theorem gv_cs : Cond.eq (.static "java/lang/String" "COMPACT_STRINGS" "Z") (.int 1) ∈ flatC GV := by decide +kernel
theorem gv_sf : Cond.isRef (.static "jdk/internal/util/Preconditions" "SIOOBE_FORMATTER" "Ljava/util/function/BiFunction;") ∈ flatC GV := by decide +kernel
theorem start_nx {args : Array Value} {s : State} (hts : ∀ w ∈ lw_tbl, w.before args s = true) : NX s := by
  refine ⟨fun q hq => ?_, va_AO.of (hts _ to_State)⟩
  obtain ⟨i, hi⟩ := List.getElem?_of_mem hq
  match i, hi with
  | 0, hi => cases hi; exact va_Nw.of rfl (hts _ ti_9)
  | 1, hi => cases hi; exact va_Nw.of rfl (hts _ ti_18)
  | 2, hi => cases hi; exact va_Nw.of rfl (hts _ ti_28)
  | 3, hi => cases hi; exact va_Nw.of rfl (hts _ ti_43)
  | 4, hi => cases hi; exact va_Nw.of rfl (hts _ ti_50)
  | 5, hi => cases hi; exact va_Nw.of rfl (hts _ ti_57)
  | 6, hi => cases hi; exact va_Nw.of rfl (hts _ ti_64)
  | n + 7, hi => simp [nestI] at hi
theorem start_xa {args : Array Value} {s : State} {A : Nat → Prop} (hts : ∀ w ∈ lw_tbl, w.before args s = true) (hgv : GV.before args s = true) (hA : ∀ a : Nat, a < s.heap.size → ¬ A a) : ∃ adK adV : Nat → Nat, ∀ g : Geo, (∀ i, i < 8 → g.1 (1000 + i) = adK i ∧ g.1 (2000 + i) = adV i) → XA g A s s.heap := by
  have hs := flat_of_before _ hgv
  obtain ⟨adK, adV, hS, hev⟩ := vk_Sof (args := args) (s := s) (N := 8) (tm := stm) (len := slen) (byt := sbyt) (A := A) (by decide) (fun i hi => hs _ (gv_ex i hi)) (fun i hi => hs _ (gv_co i hi)) (fun i hi => hs _ (gv_ar i hi)) (fun i hi => hs _ (gv_le i hi)) (fun i hi j hj => hs _ (gv_el i hi j hj)) (fun i j hi hj hij => (gv_ne i hi j hj hij).imp (fun h => hs _ h) (fun h => hs _ h)) hA
  refine ⟨adK, adV, fun g hg => ⟨fun q hq => ?_, fun i hi => ?_, ⟨fun i hi => ?_, fun i j hi hj e => ?_⟩, va_Zof (hts _ tl_CS) (hts _ tj_S) (va_eqt (hs _ gv_cs)) hA, va_Zqof (hts _ tl_SF) (hts _ tj_P) (hs _ gv_sf) hA⟩⟩
  · obtain ⟨i, hi⟩ := List.getElem?_of_mem hq
    match i, hi with
    | 0, hi => cases hi; exact va_Nw.of rfl (hts _ tn_X2_79)
    | 1, hi => cases hi; exact va_Nw.of rfl (hts _ tn_X4_50)
    | 2, hi => cases hi; exact va_Nw.of rfl (hts _ tn_X1_31)
    | n + 3, hi => simp [nestL] at hi
  · rw [(hg i hi).1]
    have h2 := hev i hi
    match i, hi, h2 with
    | 0, _, h2 => exact vk_R.of (hts _ ts_53) h2
    | 1, _, h2 => exact vk_R.of (hts _ ts_72) h2
    | 2, _, h2 => exact vk_R.of (hts _ ts_80) h2
    | 3, _, h2 => exact vk_R.of (hts _ ts_88) h2
    | 4, _, h2 => exact vk_R.of (hts _ ts_166) h2
    | 5, _, h2 => exact vk_R.of (hts _ ts_168) h2
    | 6, _, h2 => exact vk_R.of (hts _ ts_170) h2
    | 7, _, h2 => exact vk_R.of (hts _ ts_172) h2
    | n + 8, hi, _ => exact absurd hi (by omega)
  · show va_O "java/lang/String" (g.1 (1000 + i)) A s s.heap ∧ va_OF "java/lang/String" "coder" "B" (.int 0) (g.1 (1000 + i)) A s s.heap ∧ va_OF "java/lang/String" "value" "[B" (.ref (g.1 (2000 + i))) (g.1 (1000 + i)) A s s.heap ∧ va_T .byte (g.1 (2000 + i)) (slen.getD i 0) (fun j => .int ((sbyt.getD i []).getD j 0)) A s s.heap
    rw [(hg i hi).1, (hg i hi).2]
    exact hS.1 i hi
  · have e : g.1 (1000 + i) = g.1 (1000 + j) := e
    rw [(hg i hi).1, (hg j hj).1] at e
    exact hS.2 i j hi hj e
theorem start_k {args : Array Value} {s : State} (hts : ∀ w ∈ lw_tbl, w.before args s = true) : ∃ g : va_G × (ClassId × ClassId × ClassId × ClassId), ∀ u : Nat → Nat, va_K g.1 vwCl (tysG (u, g)) s := by
  have hG : ∀ w ∈ G, w.before args s = true := fun w hw => hts w (memG' hw).1
  obtain ⟨c0, i0, k0⟩ := u_known (C := RX0) (T := TX0) (N := 4) (n := 4) hG uX0 (hG _ in_X0)
  obtain ⟨c1, i1, k1⟩ := u_known (C := RX1) (T := TX1) (N := 3) (n := 3) hG uX1 (hG _ in_X1)
  obtain ⟨c2, i2, k2⟩ := u_known (C := RX2) (T := TX2) (N := 20) (n := 20) hG uX2 (hG _ in_X2)
  obtain ⟨c3, i3, k3⟩ := u_known (C := RX3) (T := TX3) (N := 7) (n := 7) hG uX3 (hG _ in_X3)
  obtain ⟨c4, i4, k4⟩ := u_known (C := RX4) (T := TX4) (N := 4) (n := 4) hG uX4 (hG _ in_X4)
  obtain ⟨c5, i5, k5⟩ := u_known (C := RX5) (T := TX5) (N := 15) (n := 15) hG uX5 (hG _ in_X5)
  obtain ⟨c6, i6, k6⟩ := u_known (C := RX6) (T := TX6) (N := 3) (n := 3) hG uX6 (hG _ in_X6)
  obtain ⟨c7, i7, k7⟩ := u_known (C := RX7) (T := TX7) (N := 10) (n := 10) hG uX7 (hG _ in_X7)
  obtain ⟨c8, i8, k8⟩ := u_known (C := RX8) (T := TX8) (N := 74) (n := 74) hG uX8 (hG _ in_X8)
  obtain ⟨aI, bI, dI, eI1, eI2, eI3⟩ := Cond.arrayClass_spec (hG _ ac_int)
  obtain ⟨aB, bB, dB, eB1, eB2, eB3⟩ := Cond.arrayClass_spec (hG _ ac_byte)
  obtain ⟨aZ, bZ, dZ, eZ1, eZ2, eZ3⟩ := Cond.arrayClass_spec (hG _ ac_boolean)
  obtain ⟨dQ, aQ, bQ, eQ0, -, eQ2, eQ3, eQ1⟩ := Cond.arrayOver_spec (hts _ to_State)
  refine ⟨((fun k => if k = 0 then c0 else if k = 1 then c1 else if k = 2 then c2 else if k = 3 then c3 else if k = 4 then c4 else if k = 5 then c5 else if k = 6 then c6 else if k = 7 then c7 else c8, fun k => if k = 0 then i0 else if k = 1 then i1 else if k = 2 then i2 else if k = 3 then i3 else if k = 4 then i4 else if k = 5 then i5 else if k = 6 then i6 else if k = 7 then i7 else i8), (aI, aB, aZ, aQ)), fun u => ⟨fun k q hq => ?_, fun k q hq => ?_⟩⟩
  · match k, hq with
    | 0, hq => cases hq; exact k0
    | 1, hq => cases hq; exact k1
    | 2, hq => cases hq; exact k2
    | 3, hq => cases hq; exact k3
    | 4, hq => cases hq; exact k4
    | 5, hq => cases hq; exact k5
    | 6, hq => cases hq; exact k6
    | 7, hq => cases hq; exact k7
    | 8, hq => cases hq; exact k8
    | n + 9, hq => simp [vwCl] at hq
  · match k, hq with
    | 0, hq => cases hq; exact ⟨fun n z => ⟨fun k h => (by cases h), bI, eI2, dI, eI3⟩, eI1⟩
    | 1, hq => cases hq; exact ⟨fun n z => ⟨fun k h => (by cases h), bB, eB2, dB, eB3⟩, eB1⟩
    | 2, hq => cases hq; exact ⟨fun n z => ⟨fun k h => (by cases h), bZ, eZ2, dZ, eZ3⟩, eZ1⟩
    | 3, hq => cases hq; exact ⟨fun n z => ⟨fun k h => (by cases h), bQ, eQ2, dQ, eQ3⟩, ⟨bQ, dQ, eQ2, eQ3, eQ0, eQ1⟩⟩
    | n + 4, hq => simp [tysG] at hq
theorem bm_c {c : Nat} (h : ¬ (37 ≤ c ∧ c ≤ 43)) : (beginM mm0 3 0).1 c = mm0.1 c := by
  funext k
  unfold beginM
  rw [cpyM_at, if_neg (by omega), cpyM_at, if_neg (by omega), fillM_at, if_neg (by omega), fillM_at, if_neg (by omega), fillM_at, if_neg (by omega), fillM_at, if_neg (by omega), wr_at, if_neg (by omega), wr_at, if_neg (by omega), wr_at, if_neg (by omega), wr_at, if_neg (by omega), wr_at, if_neg (by omega), wr_at, if_neg (by omega)]
theorem fill_R {σ : Mem} (h : Rng σ) {c n : Nat} {v : Int} (hv : inR v) : Rng (fillM σ c v n) := by
  refine ⟨fun c2 k2 => ?_, h.2⟩
  rw [fillM_at]
  split
  · exact hv
  · exact h.1 _ _
theorem cpy_R {σ : Mem} (h : Rng σ) {c0 c1 : Nat} {sp dp n : Int} : Rng (cpyM σ c0 c1 sp dp n) := by
  refine ⟨fun c2 k2 => ?_, h.2⟩
  rw [cpyM_at]
  split
  · exact h.1 _ _
  · exact h.1 _ _
theorem bm_R : Rng (beginM mm0 3 0) := by
  unfold beginM
  exact cpy_R (cpy_R (fill_R (fill_R (fill_R (fill_R (wr_R (wr_R (wr_R (wr_R (wr_R (wr_R mm0_R (by decide)) (by decide)) (by decide)) (by decide)) (by decide)) (by decide)) (by decide)) (by decide)) (by decide)) (by decide)))
theorem bm_37 {k : Int} (h0 : 0 ≤ k) (h1 : k ≤ 6) : (beginM mm0 3 0).1 37 k = 0 := by
  unfold beginM
  rw [cpyM_at, if_neg (by omega), cpyM_at, if_neg (by omega), fillM_at, if_neg (by omega), fillM_at, if_neg (by omega), fillM_at, if_neg (by omega), fillM_at, if_neg (by omega)]
  rcases (by omega : k = 0 ∨ k = 1 ∨ k = 2 ∨ k = 3 ∨ k = 4 ∨ k = 5 ∨ k = 6) with rfl | rfl | rfl | rfl | rfl | rfl | rfl <;> decide
theorem sim_start : Sim 0 (beginM mm0 3 0) := by
  have z : ∀ (c : Nat) (k : Int), ¬ (37 ≤ c ∧ c ≤ 43) → c ≠ 0 → c ≠ 1 → c ≠ 77 → c ≠ 79 → (beginM mm0 3 0).1 c k = 0 := by
    intro c k h a1 a2 a3 a4
    rw [bm_c h]
    show (if c = 0 then _ else if c = 1 then _ else if c = 77 then _ else if c = 79 then _ else (0 : Int)) = 0
    rw [if_neg a1, if_neg a2, if_neg a3, if_neg a4]
  have z79 : ∀ k : Int, k ≠ 37 → (beginM mm0 3 0).1 79 k = 0 := by
    intro k hk
    rw [bm_c (by decide)]
    show (if k = 37 then (-1 : Int) else 0) = 0
    rw [if_neg hk]
  exact sim0 (by rw [bm_c (by decide)]; rfl) (by rw [bm_c (by decide)]; rfl) (by rw [bm_c (by decide)]; rfl) (by rw [bm_c (by decide)]; rfl) (by rw [bm_c (by decide), bm_c (by decide)]; rfl) (fun k _ _ => z 3 k (by decide) (by decide) (by decide) (by decide) (by decide)) (fun k h0 h1 => bm_37 h0 h1) (z 65 0 (by decide) (by decide) (by decide) (by decide) (by decide)) (fun j => z 76 j (by decide) (by decide) (by decide) (by decide) (by decide)) (fun j => z 78 j (by decide) (by decide) (by decide) (by decide) (by decide)) (fun k hk => z79 k (by omega)) (fun i _ => z 133 i (by decide) (by decide) (by decide) (by decide) (by decide))
theorem rf_all {σ : Mem} (h1 : σ.1 0 1 = 3) (h2 : σ.1 0 2 = 20) (i : Nat) (h : i < 79) : refsIn (fun k => 0 ≤ k ∧ k < 79) σ i := by
  by_cases h0 : i = 0
  · subst h0
    unfold refsIn
    show ∀ k, k < 10 → _
    intro k hk
    rcases (by omega : k = 0 ∨ k = 1 ∨ k = 2 ∨ k = 3 ∨ k = 4 ∨ k = 5 ∨ k = 6 ∨ k = 7 ∨ k = 8 ∨ k = 9) with rfl | rfl | rfl | rfl | rfl | rfl | rfl | rfl | rfl | rfl
    · exact ⟨fun _ => by decide, fun q => absurd q (by decide)⟩
    · exact ⟨fun q => absurd q (by decide), fun _ => by rw [show ((1 : Nat) : Int) = 1 from rfl, h1]; decide⟩
    · exact ⟨fun q => absurd q (by decide), fun _ => by rw [show ((2 : Nat) : Int) = 2 from rfl, h2]; decide⟩
    · exact ⟨fun _ => by decide, fun q => absurd q (by decide)⟩
    · exact ⟨fun _ => by decide, fun q => absurd q (by decide)⟩
    · exact ⟨fun q => absurd q (by decide), fun q => absurd q (by decide)⟩
    · exact ⟨fun _ => by decide, fun q => absurd q (by decide)⟩
    · exact ⟨fun _ => by decide, fun q => absurd q (by decide)⟩
    · exact ⟨fun _ => by decide, fun q => absurd q (by decide)⟩
    · exact ⟨fun _ => by decide, fun q => absurd q (by decide)⟩
  · by_cases h46 : i = 46
    · subst h46
      unfold refsIn
      show (3 : Nat) = 3 → ∀ j, j < 2 → _
      intro _ j hj
      unfold imgId
      exact ⟨Nat.zero_le _, by omega⟩
    · have q : ∀ i, i < 79 → i ≠ 0 → i ≠ 46 → rfB 0 79 i = true := by decide +kernel
      exact rfB_ok (q i h h0 h46)
