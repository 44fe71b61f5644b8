/-- the state of another memory, where it reads the same but for some ints of cell 37 and the wear -/
theorem DynOk.to {σ τ : Mem} {P n nr nb nl mb w wt dv mb' w' wt' : Nat} (hP : P = 3 ∨ P = 20) (h : DynOk σ P n nr nb nl mb w wt dv) (e : ∀ c k, c ≠ 37 → c ≠ 38 → τ.1 c k = σ.1 c k)
    (e0 : 0 ≤ τ.1 37 0 ∧ τ.1 37 0 ≤ mb') (e1 : τ.1 37 1 = σ.1 37 1) (e2 : 0 ≤ τ.1 37 2) (e3 : τ.1 37 3 = w' ∧ w' < 2 ^ nr) (e4 : τ.1 37 4 = wt' ∧ wt' < 2 ^ nr) (e5 : τ.1 37 5 = σ.1 37 5) (e6 : τ.1 37 6 = σ.1 37 6)
    (e8 : ∀ r : Nat, r < nr → 0 ≤ τ.1 38 r ∧ τ.1 38 r ≤ 1000 ∧ (w'.testBit r = true → τ.1 38 r < 100)) (e9 : ∀ b : Nat, b < nb → σ.1 40 b ≠ -1 → w'.testBit (σ.1 40 b).toNat = true) : DynOk τ P n nr nb nl mb' w' wt' dv := by
  obtain ⟨d1, d2, d3, d4, d5, d6, d7, d8, d9, d10, d11⟩ := h
  refine ⟨e0, by rw [e1]; exact d2, e2, e3, e4, by rw [e5]; exact d6, by rw [e6]; exact d7, e8, fun b hb => ?_, fun b c h1 h2 => by rw [e _ _ (by decide) (by decide), e _ _ (by decide) (by decide)]; exact d10 b c h1 h2, fun l hl => ?_⟩
  · rw [e 39 _ (by decide) (by decide), e 40 _ (by decide) (by decide), e 41 _ (by decide) (by decide)]
    refine ⟨(d9 b hb).1, ?_⟩
    rcases (d9 b hb).2 with q | q
    · exact Or.inl q
    · exact Or.inr ⟨q.1, q.2.1, q.2.2.1, q.2.2.2.1, e9 b hb (by omega)⟩
  · have := d11 l hl
    unfold LoadOk at this ⊢
    rw [e 42 _ (by decide) (by decide), e 43 _ (by decide) (by decide), e 40 _ (by decide) (by decide), e 39 _ (by decide) (by decide), e (P + 13) _ (by omega) (by omega)]
    exact this
theorem DynOk.on {σ : Mem} {P n nr nb nl mb w wt dv : Nat} (h : DynOk σ P n nr nb nl mb w wt dv) {b : Nat} (hb : b < nb) (hq : σ.1 40 b ≠ -1) : 0 ≤ σ.1 40 b ∧ σ.1 40 b < nr ∧ 1 ≤ σ.1 41 b ∧ σ.1 41 b ≤ 400 ∧ w.testBit (σ.1 40 b).toNat = true := (h.2.2.2.2.2.2.2.2.1 b hb).2.resolve_left (fun q => hq q.1)
theorem DynOk.seed {σ : Mem} {P n nr nb nl mb w wt dv : Nat} (hP : P = 3 ∨ P = 20) (h : DynOk σ P n nr nb nl mb w wt dv) {z : Int} (hz : 0 ≤ z) : DynOk (wr σ 37 2 z) P n nr nb nl mb w wt dv := by
  have e7 : ∀ k, k ≠ 2 → (wr σ 37 2 z).1 37 k = σ.1 37 k := fun k hk => wr_nek _ hk
  refine h.to hP (fun c k h1 _ => wr_nec _ h1) (by rw [e7 _ (by decide)]; exact h.1) (e7 _ (by decide)) (by rw [wr_eq]; exact hz) (by rw [e7 _ (by decide)]; exact h.2.2.2.1) (by rw [e7 _ (by decide)]; exact h.2.2.2.2.1) (e7 _ (by decide)) (e7 _ (by decide)) (fun r hr => by rw [wr_nec _ (by decide)]; exact h.2.2.2.2.2.2.2.1 r hr) (fun b hb hq => (h.on hb hq).2.2.2.2)
theorem DynOk.wet {σ : Mem} {P n nr nb nl mb w wt dv wt' : Nat} (hP : P = 3 ∨ P = 20) (h : DynOk σ P n nr nb nl mb w wt dv) (hz : wt' < 2 ^ nr) : DynOk (wr σ 37 4 (wt' : Nat)) P n nr nb nl mb w wt' dv := by
  have e7 : ∀ k, k ≠ 4 → (wr σ 37 4 (wt' : Nat)).1 37 k = σ.1 37 k := fun k hk => wr_nek _ hk
  refine h.to hP (fun c k h1 _ => wr_nec _ h1) (by rw [e7 _ (by decide)]; exact h.1) (e7 _ (by decide)) (by rw [e7 _ (by decide)]; exact h.2.2.1) (by rw [e7 _ (by decide)]; exact h.2.2.2.1) ⟨wr_eq _ _ _ _, hz⟩ (e7 _ (by decide)) (e7 _ (by decide)) (fun r hr => by rw [wr_nec _ (by decide)]; exact h.2.2.2.2.2.2.2.1 r hr) (fun b hb hq => (h.on hb hq).2.2.2.2)
theorem DynOk.wear {σ : Mem} {P n nr nb nl mb w wt dv r : Nat} (hP : P = 3 ∨ P = 20) (h : DynOk σ P n nr nb nl mb w wt dv) (hr : r < nr) (hrw : w.testBit r = true) (hno : ∀ b : Nat, b < nb → σ.1 40 b ≠ r) {m : Int} (h0 : 0 ≤ m) (h1 : m ≤ 101) : DynOk (wearM σ r m w r) P n nr nb nl mb (if σ.1 38 r + m < 100 then w else andn w (2 ^ r)) wt dv := by
  have hw := h.2.2.2.1
  have d8 := h.2.2.2.2.2.2.2.1
  have e7 : ∀ k, k ≠ 3 → (wearM σ r m w r).1 37 k = σ.1 37 k := fun k hk => by rw [wearM_at, if_neg (by omega), if_neg (fun q => hk q.2.1)]
  refine h.to hP (fun c k a b => by rw [wearM_at, if_neg (fun q => b q.1), if_neg (fun q => a q.1)]) (by rw [e7 _ (by decide)]; exact h.1) (e7 _ (by decide)) (by rw [e7 _ (by decide)]; exact h.2.2.1) ?_ (by rw [e7 _ (by decide)]; exact h.2.2.2.2.1) (e7 _ (by decide)) (e7 _ (by decide)) (fun j hj => ?_) (fun b hb hq => ?_)
  · rw [wearM_at, if_neg (by omega)]
    by_cases q : σ.1 38 r + m < 100
    · rw [if_neg (fun z => z.2.2 q), if_pos q]; exact hw
    · rw [if_pos ⟨rfl, rfl, q⟩, if_neg q]; exact ⟨rfl, andn_lt _ hw.2⟩
  · have a := d8 j hj
    have b := d8 r hr
    have b2 := b.2.2 hrw
    rw [wearM_at]
    by_cases q : j = r
    · subst q
      rw [if_pos ⟨rfl, rfl⟩]
      refine ⟨by omega, by omega, fun z => ?_⟩
      by_cases q2 : σ.1 38 j + m < 100
      · exact q2
      · rw [if_neg q2, andn_test, test_pow] at z
        simp at z
    · rw [if_neg (by omega), if_neg (by omega)]
      refine ⟨a.1, a.2.1, fun z => a.2.2 ?_⟩
      split at z
      · exact z
      · rw [andn_test] at z; simp at z; exact z.1
  · have a := h.on hb hq
    have hnn := hno b hb
    split
    · exact a.2.2.2.2
    · rw [andn_test, a.2.2.2.2, test_pow]
      have : ¬ r = (σ.1 40 b).toNat := by omega
      simp [this]
def drw (σ : Mem) (n : Int) : Int := ((nseed (σ.1 37 2)).tdiv 65536).tmod n
def sdM (σ : Mem) : Mem := wr σ 37 2 (nseed (σ.1 37 2))
theorem drw_R (σ : Mem) {n : Int} (hn : 1 ≤ n) : 0 ≤ drw σ n ∧ drw σ n < n := by
  have h := nseed_R (σ.1 37 2)
  unfold drw
  rw [Int.tdiv_eq_ediv_of_nonneg h.1, Int.tmod_eq_emod_of_nonneg (Int.ediv_nonneg h.1 (by decide))]
  exact ⟨Int.emod_nonneg _ (by omega), Int.emod_lt_of_pos _ (by omega)⟩
def wtN (σ : Mem) : Nat := (σ.1 37 4).toNat
def st1 (σ : Mem) (nb : Nat) (q : Int) (r : Nat) : Mem := if (wN σ).testBit r = true ∧ fstI (fun i => σ.1 40 i) r nb = -1 then (if drw σ 100 < q then wearM (sdM (sdM σ)) r (drw (sdM σ) 40) (wN σ) r else sdM σ) else σ
def stL1 (σ : Mem) (nb : Nat) (q : Int) : Nat → Mem
  | 0 => σ
  | r + 1 => st1 (stL1 σ nb q r) nb q r
def st2 (σ : Mem) (r : Nat) : Mem := wetM (sdM σ) r (wtN σ) (if drw σ 2 = 1 then 1 else 0)
def stL2 (σ : Mem) : Nat → Mem
  | 0 => σ
  | r + 1 => st2 (stL2 σ r) r
theorem fstI_m1 {f : Nat → Int} {r : Int} {n : Nat} (h : fstI f r n = -1) : ∀ b, b < n → f b ≠ r := by
  intro b hb e
  have : ∃ i, i < n ∧ (∀ j, j < i → f j ≠ r) ∧ f i = r := by
    induction b using Nat.strongRecOn with
    | ind b ih =>
      by_cases q : ∃ j, j < b ∧ f j = r
      · obtain ⟨j, h1, h2⟩ := q
        exact ih j h1 (by omega) h2
      · exact ⟨b, hb, fun j hj z => q ⟨j, hj, z⟩, e⟩
  obtain ⟨i, h1, h2, h3⟩ := this
  rw [fstI_at h1 h2 h3] at h
  omega
theorem st1_ok {σ : Mem} {P n nr nb nl mb w wt dv r : Nat} {q : Int} (hP : P = 3 ∨ P = 20) (h : DynOk σ P n nr nb nl mb w wt dv) (hr : r < nr) : (∃ w', DynOk (st1 σ nb q r) P n nr nb nl mb w' wt dv) ∧ Same sN σ (st1 σ nb q r) := by
  have n37 : sN 37 := by unfold sN; omega
  have n38 : sN 38 := by unfold sN; omega
  have hs1 : Same sN σ (sdM σ) := Same.rf.wr n37
  have hs2 : Same sN σ (sdM (sdM σ)) := hs1.wr n37
  have g1 := h.seed hP (nseed_R (σ.1 37 2)).1
  have g2 : DynOk (sdM (sdM σ)) P n nr nb nl mb w wt dv := DynOk.seed hP g1 (nseed_R ((sdM σ).1 37 2)).1
  unfold st1
  rw [h.w.1]
  split
  next c =>
    split
    · have hd := drw_R (sdM σ) (n := 40) (by decide)
      refine ⟨⟨_, DynOk.wear hP g2 hr c.1 (fun b hb => ?_) hd.1 (by omega)⟩, wearM_same hs2 n37 n38⟩
      have : (sdM (sdM σ)).1 40 b = σ.1 40 b := by unfold sdM; rw [wr_nec _ (by decide), wr_nec _ (by decide)]
      rw [this]
      exact fstI_m1 c.2 b hb
    · exact ⟨⟨w, g1⟩, hs1⟩
  · exact ⟨⟨w, h⟩, Same.rf⟩
theorem st2_ok {σ : Mem} {P n nr nb nl mb w wt dv r : Nat} (hP : P = 3 ∨ P = 20) (h : DynOk σ P n nr nb nl mb w wt dv) (hr : r < nr) : (∃ wt', DynOk (st2 σ r) P n nr nb nl mb w wt' dv) ∧ Same sN σ (st2 σ r) := by
  have n37 : sN 37 := by unfold sN; omega
  have hs1 : Same sN σ (sdM σ) := Same.rf.wr n37
  have g1 : DynOk (sdM σ) P n nr nb nl mb w wt dv := h.seed hP (nseed_R (σ.1 37 2)).1
  have hwt : wtN σ = wt := by have := h.2.2.2.2.1.1; unfold wtN; omega
  unfold st2 wetM
  rw [hwt]
  have hp2 : 2 ^ r < 2 ^ nr := Nat.pow_lt_pow_right (by decide) hr
  refine ⟨?_, hs1.wr n37⟩
  by_cases z : (if drw σ 2 = 1 then (1 : Int) else 0) = 0
  · rw [if_pos z]; exact ⟨_, g1.wet hP (andn_lt (2 ^ r) h.2.2.2.2.1.2)⟩
  · rw [if_neg z]; exact ⟨_, g1.wet hP (Nat.or_lt_two_pow h.2.2.2.2.1.2 hp2)⟩
theorem stL1_ok {σ : Mem} {P n nr nb nl mb w wt dv : Nat} {q : Int} (hP : P = 3 ∨ P = 20) (h : DynOk σ P n nr nb nl mb w wt dv) : ∀ r, r ≤ nr → (∃ w', DynOk (stL1 σ nb q r) P n nr nb nl mb w' wt dv) ∧ Same sN σ (stL1 σ nb q r) := by
  intro r
  induction r with
  | zero => intro _; exact ⟨⟨w, h⟩, Same.rf⟩
  | succ r ih =>
    intro hr
    obtain ⟨⟨w1, h1⟩, h2⟩ := ih (by omega)
    obtain ⟨h3, h4⟩ := st1_ok (q := q) hP h1 (show r < nr by omega)
    exact ⟨h3, h2.tr h4⟩
theorem stL2_ok {σ : Mem} {P n nr nb nl mb w wt dv : Nat} (hP : P = 3 ∨ P = 20) (h : DynOk σ P n nr nb nl mb w wt dv) : ∀ r, r ≤ nr → (∃ wt', DynOk (stL2 σ r) P n nr nb nl mb w wt' dv) ∧ Same sN σ (stL2 σ r) := by
  intro r
  induction r with
  | zero => intro _; exact ⟨⟨wt, h⟩, Same.rf⟩
  | succ r ih =>
    intro hr
    obtain ⟨⟨w1, h1⟩, h2⟩ := ih (by omega)
    obtain ⟨h3, h4⟩ := st2_ok hP h1 (show r < nr by omega)
    exact ⟨h3, h2.tr h4⟩
def stormM (σ : Mem) (nb nr : Nat) (q : Int) : Mem := stL2 (stL1 σ nb q nr) nr
theorem k_storm (σ : Mem) (P n nr nb nl mb w wt dv : Nat) (f t : Nat → Nat) (hPO : PlanOk σ P n nr nb nl f t) (hPI : PlIs σ P) (hDy : DynOk σ P n nr nb nl mb w wt dv) (q : Int) (hq : inR q) : Con yX7_storm cX7_storm 4 (some .int) 1 23 [.ref 0, .int (iI q)] σ (fun v τ => if ¬ (0 ≤ q ∧ q ≤ 100) then AnsI (-1000000002) σ v τ else AnsI (andn w (wN (stormM σ nb nr q)) : Nat) (stormM σ nb nr q) v τ) := by
  refine con_of (by decide) rfl (Nat.le_of_ble_eq_true rfl) ((fun v τ h => by repeat (first | exact ok_I rfl v τ h | split at h))) ?_
  refine ev_w (fun hR => ?_)
  have hR0 := hR
  obtain ⟨hPR, ⟨hnb, hnb4⟩, ⟨hnl, hnl4⟩, hpo, hro, hbo, hlo⟩ := id hPO
  obtain ⟨hP, hn, hn8, hnr, hnr12, hft⟩ := id hPR
  have hpl := hPI.q
  have hw := hDy.2.2.2.1
  have h2r : 2 ^ nr ≤ 2 ^ 12 := Nat.pow_le_pow_right (by decide) hnr12
  have loop2 : 0 ≤ q ∧ q ≤ 100 → ∀ r : Nat, r ≤ nr → Ev RX7 cX7_storm 4 1 23 (fun v τ => if ¬ (0 ≤ q ∧ q ≤ 100) then AnsI (-1000000002) σ v τ else AnsI (andn w (wN (stormM σ nb nr q)) : Nat) (stormM σ nb nr q) v τ) 105 [some (.ref 0), some (.int (iI q)), some (.int (iI w)), some (.int (iI (r : Nat)))] [] (stL2 (stL1 σ nb q nr) r) := by
    intro hq2
    obtain ⟨⟨w0, h0⟩, h00⟩ := stL1_ok (q := q) hP hDy nr (Nat.le_refl _)
    refine for_up nr (fun r hr ih => ?_)
    refine ev_w (fun hR => ?_)
    obtain ⟨⟨wt1, h1⟩, h2⟩ := stL2_ok hP h0 r hr
    have hPO3 := hPO.same (h00.tr h2) (fun k hk z => by unfold sN at z; omega)
    have hPI3 : PlIs (stL2 (stL1 σ nb q nr) r) P := hPI.same (h00.tr h2) (by unfold sN; omega)
    have hpl3 := hPI3.q
    have hwt1 := h1.2.2.2.2.1
    have hdr := drw_R (stL2 (stL1 σ nb q nr) r) (n := 2) (by decide)
    have hsd : (sdM (stL2 (stL1 σ nb q nr) r)).1 37 4 = wt1 := by unfold sdM; rw [wr_nek _ (by decide)]; exact hwt1.1
    refine ev_iload_n dX7_storm_105 rfl ?_
    refine ev_aload_n dX7_storm_106 rfl ?_
    refine ev_getQ (r := P) dX7_storm_107 fl_X7_19 rfl rfl hpl3 ?_
    refine ev_getI (kz := 1) dX7_storm_110 fl_X7_98 (plO hP) rfl rfl ?_
    rw [hPO3.1.2.2.2.1]
    refine ev_icmp_ge (tgt := 147) dX7_storm_113 (by decide) (by first | exact hR.1 _ _ | exact hR0.1 _ _ | assumption | exact ⟨by omega, by omega⟩ | exact ⟨by simp [wr_at]; omega, by simp [wr_at]; omega⟩ | exact b2_R _ | exact bC_R _ | exact band_R _ _ | exact bor_R _ _ | exact bshl_R _ _ | exact bshr_R _ _ | exact bxor_R _ _ | exact bs_R (by omega) | decide) (by first | exact hR.1 _ _ | exact hR0.1 _ _ | assumption | exact ⟨by omega, by omega⟩ | exact ⟨by simp [wr_at]; omega, by simp [wr_at]; omega⟩ | exact b2_R _ | exact bC_R _ | exact band_R _ _ | exact bor_R _ _ | exact bshl_R _ _ | exact bshr_R _ _ | exact bxor_R _ _ | exact bs_R (by omega) | decide) (fun h_113 => ?_) (fun h_113 => ?_)
    · refine ev_iload_n dX7_storm_147 rfl ?_
      refine ev_aload_n dX7_storm_148 rfl ?_
      refine ev_getR (r := 37) dX7_storm_149 fl_X7_29 rfl rfl rfl ?_
      refine ev_getI (kz := 3) dX7_storm_152 fl_X7_119 rfl rfl rfl ?_
      have hwN := h1.2.2.2.1
      rw [hwN.1]
      refine ev_iconst dX7_storm_155 ?_
      refine ev_ixor dX7_storm_156 ?_
      refine ev_iand dX7_storm_157 ?_
      rw [band_not w w0 (by omega)]
      refine ev_ireturn dX7_storm_158 ?_
      obtain rfl : r = nr := by omega
      rw [if_neg (fun y => y hq2), stormM, h1.w.1]
      exact ⟨rfl, rfl⟩
    · refine ev_aload_n dX7_storm_116 rfl ?_
      refine ev_getR (r := 37) dX7_storm_117 fl_X7_29 rfl rfl rfl ?_
      refine ev_iload_n dX7_storm_120 rfl ?_
      refine ev_aload_n dX7_storm_121 rfl ?_
      refine ev_getR (r := 37) dX7_storm_122 fl_X7_29 rfl rfl rfl ?_
      refine ev_iconst dX7_storm_125 ?_
      refine ev_callVI dX7_storm_126 kv_X7_245 (k_draw _ 2 (by decide) (by decide) h1.2.2.1) rfl rfl (ci := 5) rfl rfl ⟨by decide, by decide⟩ (Nat.le_of_ble_eq_true rfl) ?_
      refine ev_w (fun hR => ?_)
      rw [show ((nseed ((stL2 (stL1 σ nb q nr) r).1 37 2)).tdiv 65536).tmod 2 = drw (stL2 (stL1 σ nb q nr) r) 2 from rfl]
      refine ev_iconst dX7_storm_129 ?_
      refine ev_icmp_ne (tgt := 137) dX7_storm_130 (by decide) (by first | exact hR.1 _ _ | exact hR0.1 _ _ | assumption | exact ⟨by omega, by omega⟩ | exact ⟨by simp [wr_at]; omega, by simp [wr_at]; omega⟩ | exact b2_R _ | exact bC_R _ | exact band_R _ _ | exact bor_R _ _ | exact bshl_R _ _ | exact bshr_R _ _ | exact bxor_R _ _ | exact bs_R (by omega) | decide) (by first | exact hR.1 _ _ | exact hR0.1 _ _ | assumption | exact ⟨by omega, by omega⟩ | exact ⟨by simp [wr_at]; omega, by simp [wr_at]; omega⟩ | exact b2_R _ | exact bC_R _ | exact band_R _ _ | exact bor_R _ _ | exact bshl_R _ _ | exact bshr_R _ _ | exact bxor_R _ _ | exact bs_R (by omega) | decide) (fun h_130 => ?_) (fun h_130 => ?_)
      · refine ev_iconst dX7_storm_137 ?_
        refine ev_callVV dX7_storm_138 kv_X7_241 (k_setWet (sdM (stL2 (stL1 σ nb q nr) r)) _ wt1 r (by omega) hsd (by omega) (by decide)) rfl rfl (ci := 5) rfl rfl ⟨by decide, by decide⟩ (Nat.le_of_ble_eq_true rfl) ?_
        refine ev_w (fun hR => ?_)
        refine ev_iinc dX7_storm_141 rfl rfl (by decide) rfl ?_
        refine ev_goto (tgt := 105) dX7_storm_144 (by decide) ?_
        first
          | (have z : drw (stL2 (stL1 σ nb q nr) r) 2 = 1 := by omega
             have e : wetM (sdM (stL2 (stL1 σ nb q nr) r)) r wt1 1 = stL2 (stL1 σ nb q nr) (r + 1) := by
               rw [stL2, st2, if_pos z]; congr 1; unfold wtN; omega
             rw [e]
             exact ih (by omega))
          | (have z : ¬ drw (stL2 (stL1 σ nb q nr) r) 2 = 1 := by omega
             have e : wetM (sdM (stL2 (stL1 σ nb q nr) r)) r wt1 0 = stL2 (stL1 σ nb q nr) (r + 1) := by
               rw [stL2, st2, if_neg z]; congr 1; unfold wtN; omega
             rw [e]
             exact ih (by omega))
      · refine ev_iconst dX7_storm_133 ?_
        refine ev_goto (tgt := 138) dX7_storm_134 (by decide) ?_
        refine ev_callVV dX7_storm_138 kv_X7_241 (k_setWet (sdM (stL2 (stL1 σ nb q nr) r)) _ wt1 r (by omega) hsd (by omega) (by decide)) rfl rfl (ci := 5) rfl rfl ⟨by decide, by decide⟩ (Nat.le_of_ble_eq_true rfl) ?_
        refine ev_w (fun hR => ?_)
        refine ev_iinc dX7_storm_141 rfl rfl (by decide) rfl ?_
        refine ev_goto (tgt := 105) dX7_storm_144 (by decide) ?_
        first
          | (have z : drw (stL2 (stL1 σ nb q nr) r) 2 = 1 := by omega
             have e : wetM (sdM (stL2 (stL1 σ nb q nr) r)) r wt1 1 = stL2 (stL1 σ nb q nr) (r + 1) := by
               rw [stL2, st2, if_pos z]; congr 1; unfold wtN; omega
             rw [e]
             exact ih (by omega))
          | (have z : ¬ drw (stL2 (stL1 σ nb q nr) r) 2 = 1 := by omega
             have e : wetM (sdM (stL2 (stL1 σ nb q nr) r)) r wt1 0 = stL2 (stL1 σ nb q nr) (r + 1) := by
               rw [stL2, st2, if_neg z]; congr 1; unfold wtN; omega
             rw [e]
             exact ih (by omega))
  have loop1 : 0 ≤ q ∧ q ≤ 100 → ∀ r : Nat, r ≤ nr → Ev RX7 cX7_storm 4 1 23 (fun v τ => if ¬ (0 ≤ q ∧ q ≤ 100) then AnsI (-1000000002) σ v τ else AnsI (andn w (wN (stormM σ nb nr q)) : Nat) (stormM σ nb nr q) v τ) 23 [some (.ref 0), some (.int (iI q)), some (.int (iI w)), some (.int (iI (r : Nat)))] [] (stL1 σ nb q r) := by
    intro hq2
    refine for_up nr (fun r hr ih => ?_)
    refine ev_w (fun hR => ?_)
    obtain ⟨⟨w1, h1⟩, h2⟩ := stL1_ok (q := q) hP hDy r hr
    have hPO3 := hPO.same h2 (fun k hk z => by unfold sN at z; omega)
    have hPI3 : PlIs (stL1 σ nb q r) P := hPI.same h2 (by unfold sN; omega)
    have hpl3 := hPI3.q
    have hw1 := h1.2.2.2.1
    have hd1 := drw_R (stL1 σ nb q r) (n := 100) (by decide)
    have hd2 := drw_R (sdM (stL1 σ nb q r)) (n := 40) (by decide)
    have hfb := fstI_R (fun i => (stL1 σ nb q r).1 40 i) (r : Int) nb
    have hst : stL1 σ nb q (r + 1) = st1 (stL1 σ nb q r) nb q r := rfl
    have hsd2 : (sdM (sdM (stL1 σ nb q r))).1 37 3 = w1 := by unfold sdM; rw [wr_nek _ (by decide), wr_nek _ (by decide)]; exact hw1.1
    have hs38 : (sdM (sdM (stL1 σ nb q r))).1 38 r = (stL1 σ nb q r).1 38 r := by unfold sdM; rw [wr_nec _ (by decide), wr_nec _ (by decide)]
    have hsd1 : 0 ≤ (sdM (stL1 σ nb q r)).1 37 2 := by unfold sdM; rw [wr_eq]; exact (nseed_R _).1
    refine ev_iload_n dX7_storm_23 rfl ?_
    refine ev_aload_n dX7_storm_24 rfl ?_
    refine ev_getQ (r := P) dX7_storm_25 fl_X7_19 rfl rfl hpl3 ?_
    refine ev_getI (kz := 1) dX7_storm_28 fl_X7_98 (plO hP) rfl rfl ?_
    rw [hPO3.1.2.2.2.1]
    refine ev_icmp_ge (tgt := 103) dX7_storm_31 (by decide) (by first | exact hR.1 _ _ | exact hR0.1 _ _ | assumption | exact ⟨by omega, by omega⟩ | exact ⟨by simp [wr_at]; omega, by simp [wr_at]; omega⟩ | exact b2_R _ | exact bC_R _ | exact band_R _ _ | exact bor_R _ _ | exact bshl_R _ _ | exact bshr_R _ _ | exact bxor_R _ _ | exact bs_R (by omega) | decide) (by first | exact hR.1 _ _ | exact hR0.1 _ _ | assumption | exact ⟨by omega, by omega⟩ | exact ⟨by simp [wr_at]; omega, by simp [wr_at]; omega⟩ | exact b2_R _ | exact bC_R _ | exact band_R _ _ | exact bor_R _ _ | exact bshl_R _ _ | exact bshr_R _ _ | exact bxor_R _ _ | exact bs_R (by omega) | decide) (fun h_31 => ?_) (fun h_31 => ?_)
    · refine ev_iconst dX7_storm_103 ?_
      refine ev_istore_n dX7_storm_104 rfl (by decide) rfl ?_
      obtain rfl : r = nr := by omega
      exact loop2 hq2 0 (by omega)
    · refine ev_aload_n dX7_storm_34 rfl ?_
      refine ev_getR (r := 37) dX7_storm_35 fl_X7_29 rfl rfl rfl ?_
      refine ev_getI (kz := 3) dX7_storm_38 fl_X7_119 rfl rfl rfl ?_
      rw [hw1.1]
      refine ev_iload_n dX7_storm_41 rfl ?_
      refine ev_callSI dX7_storm_42 ks_X7_237 (k_has _ w1 r (by omega) (by omega)) rfl rfl ⟨by decide, by decide⟩ (Nat.le_of_ble_eq_true rfl) ?_
      refine ev_w (fun hR => ?_)
      refine ev_if_eq (tgt := 97) dX7_storm_45 (by decide) (by first | exact hR.1 _ _ | exact hR0.1 _ _ | assumption | exact ⟨by omega, by omega⟩ | exact ⟨by simp [wr_at]; omega, by simp [wr_at]; omega⟩ | exact b2_R _ | exact bC_R _ | exact band_R _ _ | exact bor_R _ _ | exact bshl_R _ _ | exact bshr_R _ _ | exact bxor_R _ _ | exact bs_R (by omega) | decide) (fun h_45 => ?_) (fun h_45 => ?_)
      · refine ev_iinc dX7_storm_97 rfl rfl (by decide) rfl ?_
        refine ev_goto (tgt := 23) dX7_storm_100 (by decide) ?_
        first
          | (have z1 := b2_eq h_45
             refine ev_σ (show stL1 σ nb q r = stL1 σ nb q (r + 1) by rw [hst, st1, h1.w.1, if_neg (fun y => z1 y.1)]) ?_
             exact ih (by omega))
          | (have z1 := b2_ne h_45
             first
               | (have z2 : ¬ fstI (fun i => (stL1 σ nb q r).1 40 i) (r : Int) nb = -1 := h_64
                  refine ev_σ (show stL1 σ nb q r = stL1 σ nb q (r + 1) by rw [hst, st1, h1.w.1, if_neg (fun y => z2 y.2)]) ?_
                  exact ih (by omega))
               | (have z2 : fstI (fun i => (stL1 σ nb q r).1 40 i) (r : Int) nb = -1 := h_64
                  first
                    | (have z3 : ¬ drw (stL1 σ nb q r) 100 < q := by omega
                       refine ev_σ (show sdM (stL1 σ nb q r) = stL1 σ nb q (r + 1) by rw [hst, st1, h1.w.1, if_pos ⟨z1, z2⟩, if_neg z3]) ?_
                       exact ih (by omega))
                    | (have z3 : drw (stL1 σ nb q r) 100 < q := by omega
                       refine ev_σ (show wearM (sdM (sdM (stL1 σ nb q r))) r (drw (sdM (stL1 σ nb q r)) 40) w1 r = stL1 σ nb q (r + 1) by rw [hst, st1, h1.w.1, if_pos ⟨z1, z2⟩, if_pos z3]) ?_
                       exact ih (by omega))))
      · refine ev_aload_n dX7_storm_48 rfl ?_
        refine ev_getR (r := 37) dX7_storm_49 fl_X7_29 rfl rfl rfl ?_
        refine ev_iload_n dX7_storm_52 rfl ?_
        refine ev_aload_n dX7_storm_53 rfl ?_
        refine ev_getQ (r := P) dX7_storm_54 fl_X7_19 rfl rfl hpl3 ?_
        refine ev_getI (kz := 2) dX7_storm_57 fl_X7_101 (plO hP) rfl rfl ?_
        rw [hPO3.2.1.1]
        refine ev_callVI dX7_storm_60 kv_X7_168 (k_boyOn _ r nb ⟨by omega, by omega⟩ hnb4) rfl rfl (ci := 5) rfl rfl ⟨by decide, by decide⟩ (Nat.le_of_ble_eq_true rfl) ?_
        refine ev_w (fun hR => ?_)
        refine ev_iconst dX7_storm_63 ?_
        refine ev_icmp_ne (tgt := 97) dX7_storm_64 (by decide) ⟨by omega, by omega⟩ (by decide) (fun h_64 => ?_) (fun h_64 => ?_)
        · refine ev_iinc dX7_storm_97 rfl rfl (by decide) rfl ?_
          refine ev_goto (tgt := 23) dX7_storm_100 (by decide) ?_
          first
            | (have z1 := b2_eq h_45
               refine ev_σ (show stL1 σ nb q r = stL1 σ nb q (r + 1) by rw [hst, st1, h1.w.1, if_neg (fun y => z1 y.1)]) ?_
               exact ih (by omega))
            | (have z1 := b2_ne h_45
               first
                 | (have z2 : ¬ fstI (fun i => (stL1 σ nb q r).1 40 i) (r : Int) nb = -1 := h_64
                    refine ev_σ (show stL1 σ nb q r = stL1 σ nb q (r + 1) by rw [hst, st1, h1.w.1, if_neg (fun y => z2 y.2)]) ?_
                    exact ih (by omega))
                 | (have z2 : fstI (fun i => (stL1 σ nb q r).1 40 i) (r : Int) nb = -1 := h_64
                    first
                      | (have z3 : ¬ drw (stL1 σ nb q r) 100 < q := by omega
                         refine ev_σ (show sdM (stL1 σ nb q r) = stL1 σ nb q (r + 1) by rw [hst, st1, h1.w.1, if_pos ⟨z1, z2⟩, if_neg z3]) ?_
                         exact ih (by omega))
                      | (have z3 : drw (stL1 σ nb q r) 100 < q := by omega
                         refine ev_σ (show wearM (sdM (sdM (stL1 σ nb q r))) r (drw (sdM (stL1 σ nb q r)) 40) w1 r = stL1 σ nb q (r + 1) by rw [hst, st1, h1.w.1, if_pos ⟨z1, z2⟩, if_pos z3]) ?_
                         exact ih (by omega))))
        · refine ev_aload_n dX7_storm_67 rfl ?_
          refine ev_getR (r := 37) dX7_storm_68 fl_X7_29 rfl rfl rfl ?_
          refine ev_bipush dX7_storm_71 (by decide) ?_
          refine ev_callVI dX7_storm_73 kv_X7_245 (k_draw _ 100 (by decide) (by decide) h1.2.2.1) rfl rfl (ci := 5) rfl rfl ⟨by decide, by decide⟩ (Nat.le_of_ble_eq_true rfl) ?_
          refine ev_w (fun hR => ?_)
          rw [show ((nseed ((stL1 σ nb q r).1 37 2)).tdiv 65536).tmod 100 = drw (stL1 σ nb q r) 100 from rfl]
          refine ev_iload_n dX7_storm_76 rfl ?_
          refine ev_icmp_ge (tgt := 97) dX7_storm_77 (by decide) (by first | exact hR.1 _ _ | exact hR0.1 _ _ | assumption | exact ⟨by omega, by omega⟩ | exact ⟨by simp [wr_at]; omega, by simp [wr_at]; omega⟩ | exact b2_R _ | exact bC_R _ | exact band_R _ _ | exact bor_R _ _ | exact bshl_R _ _ | exact bshr_R _ _ | exact bxor_R _ _ | exact bs_R (by omega) | decide) (by first | exact hR.1 _ _ | exact hR0.1 _ _ | assumption | exact ⟨by omega, by omega⟩ | exact ⟨by simp [wr_at]; omega, by simp [wr_at]; omega⟩ | exact b2_R _ | exact bC_R _ | exact band_R _ _ | exact bor_R _ _ | exact bshl_R _ _ | exact bshr_R _ _ | exact bxor_R _ _ | exact bs_R (by omega) | decide) (fun h_77 => ?_) (fun h_77 => ?_)
          · refine ev_iinc dX7_storm_97 rfl rfl (by decide) rfl ?_
            refine ev_goto (tgt := 23) dX7_storm_100 (by decide) ?_
            first
              | (have z1 := b2_eq h_45
                 refine ev_σ (show stL1 σ nb q r = stL1 σ nb q (r + 1) by rw [hst, st1, h1.w.1, if_neg (fun y => z1 y.1)]) ?_
                 exact ih (by omega))
              | (have z1 := b2_ne h_45
                 first
                   | (have z2 : ¬ fstI (fun i => (stL1 σ nb q r).1 40 i) (r : Int) nb = -1 := h_64
                      refine ev_σ (show stL1 σ nb q r = stL1 σ nb q (r + 1) by rw [hst, st1, h1.w.1, if_neg (fun y => z2 y.2)]) ?_
                      exact ih (by omega))
                   | (have z2 : fstI (fun i => (stL1 σ nb q r).1 40 i) (r : Int) nb = -1 := h_64
                      first
                        | (have z3 : ¬ drw (stL1 σ nb q r) 100 < q := by omega
                           refine ev_σ (show sdM (stL1 σ nb q r) = stL1 σ nb q (r + 1) by rw [hst, st1, h1.w.1, if_pos ⟨z1, z2⟩, if_neg z3]) ?_
                           exact ih (by omega))
                        | (have z3 : drw (stL1 σ nb q r) 100 < q := by omega
                           refine ev_σ (show wearM (sdM (sdM (stL1 σ nb q r))) r (drw (sdM (stL1 σ nb q r)) 40) w1 r = stL1 σ nb q (r + 1) by rw [hst, st1, h1.w.1, if_pos ⟨z1, z2⟩, if_pos z3]) ?_
                           exact ih (by omega))))
          · refine ev_aload_n dX7_storm_80 rfl ?_
            refine ev_getR (r := 37) dX7_storm_81 fl_X7_29 rfl rfl rfl ?_
            refine ev_iload_n dX7_storm_84 rfl ?_
            refine ev_aload_n dX7_storm_85 rfl ?_
            refine ev_getR (r := 37) dX7_storm_86 fl_X7_29 rfl rfl rfl ?_
            refine ev_bipush dX7_storm_89 (by decide) ?_
            refine ev_callVI dX7_storm_91 kv_X7_245 (k_draw (sdM (stL1 σ nb q r)) 40 (by decide) (by decide) hsd1) rfl rfl (ci := 5) rfl rfl ⟨by decide, by decide⟩ (Nat.le_of_ble_eq_true rfl) ?_
            refine ev_w (fun hR => ?_)
            have hwear := h1.2.2.2.2.2.2.2.1 r (by omega)
            refine ev_callVV dX7_storm_94 kv_X7_248 (k_addWear (sdM (sdM (stL1 σ nb q r))) (drw (sdM (stL1 σ nb q r)) 40) w1 r (by omega) hsd2 (by omega) (by rw [hs38]; exact ⟨by omega, by omega⟩)) rfl rfl (ci := 5) rfl rfl ⟨by decide, by decide⟩ (Nat.le_of_ble_eq_true rfl) ?_
            refine ev_w (fun hR => ?_)
            refine ev_iinc dX7_storm_97 rfl rfl (by decide) rfl ?_
            refine ev_goto (tgt := 23) dX7_storm_100 (by decide) ?_
            first
              | (have z1 := b2_eq h_45
                 refine ev_σ (show stL1 σ nb q r = stL1 σ nb q (r + 1) by rw [hst, st1, h1.w.1, if_neg (fun y => z1 y.1)]) ?_
                 exact ih (by omega))
              | (have z1 := b2_ne h_45
                 first
                   | (have z2 : ¬ fstI (fun i => (stL1 σ nb q r).1 40 i) (r : Int) nb = -1 := h_64
                      refine ev_σ (show stL1 σ nb q r = stL1 σ nb q (r + 1) by rw [hst, st1, h1.w.1, if_neg (fun y => z2 y.2)]) ?_
                      exact ih (by omega))
                   | (have z2 : fstI (fun i => (stL1 σ nb q r).1 40 i) (r : Int) nb = -1 := h_64
                      first
                        | (have z3 : ¬ drw (stL1 σ nb q r) 100 < q := by omega
                           refine ev_σ (show sdM (stL1 σ nb q r) = stL1 σ nb q (r + 1) by rw [hst, st1, h1.w.1, if_pos ⟨z1, z2⟩, if_neg z3]) ?_
                           exact ih (by omega))
                        | (have z3 : drw (stL1 σ nb q r) 100 < q := by omega
                           refine ev_σ (show wearM (sdM (sdM (stL1 σ nb q r))) r (drw (sdM (stL1 σ nb q r)) 40) w1 r = stL1 σ nb q (r + 1) by rw [hst, st1, h1.w.1, if_pos ⟨z1, z2⟩, if_pos z3]) ?_
                           exact ih (by omega))))
  refine ev_iload_n dX7_storm_0 rfl ?_
  refine ev_if_lt (tgt := 10) dX7_storm_1 (by decide) (by first | exact hR.1 _ _ | exact hR0.1 _ _ | assumption | exact ⟨by omega, by omega⟩ | exact ⟨by simp [wr_at]; omega, by simp [wr_at]; omega⟩ | exact b2_R _ | exact bC_R _ | exact band_R _ _ | exact bor_R _ _ | exact bshl_R _ _ | exact bshr_R _ _ | exact bxor_R _ _ | exact bs_R (by omega) | decide) (fun h_1 => ?_) (fun h_1 => ?_)
  · refine ev_ldc (z := -1000000002) dX7_storm_10 kc_X7_73 (by decide) ?_
    refine ev_ireturn dX7_storm_12 ?_
    rw [if_pos (by omega)]
    exact ⟨rfl, rfl⟩
  · refine ev_iload_n dX7_storm_4 rfl ?_
    refine ev_bipush dX7_storm_5 (by decide) ?_
    refine ev_icmp_le (tgt := 13) dX7_storm_7 (by decide) (by first | exact hR.1 _ _ | exact hR0.1 _ _ | assumption | exact ⟨by omega, by omega⟩ | exact ⟨by simp [wr_at]; omega, by simp [wr_at]; omega⟩ | exact b2_R _ | exact bC_R _ | exact band_R _ _ | exact bor_R _ _ | exact bshl_R _ _ | exact bshr_R _ _ | exact bxor_R _ _ | exact bs_R (by omega) | decide) (by first | exact hR.1 _ _ | exact hR0.1 _ _ | assumption | exact ⟨by omega, by omega⟩ | exact ⟨by simp [wr_at]; omega, by simp [wr_at]; omega⟩ | exact b2_R _ | exact bC_R _ | exact band_R _ _ | exact bor_R _ _ | exact bshl_R _ _ | exact bshr_R _ _ | exact bxor_R _ _ | exact bs_R (by omega) | decide) (fun h_7 => ?_) (fun h_7 => ?_)
    · refine ev_aload_n dX7_storm_13 rfl ?_
      refine ev_getR (r := 37) dX7_storm_14 fl_X7_29 rfl rfl rfl ?_
      refine ev_getI (kz := 3) dX7_storm_17 fl_X7_119 rfl rfl rfl ?_
      rw [hw.1]
      refine ev_istore_n dX7_storm_20 rfl (by decide) rfl ?_
      refine ev_iconst dX7_storm_21 ?_
      refine ev_istore_n dX7_storm_22 rfl (by decide) rfl ?_
      exact loop1 ⟨by omega, by omega⟩ 0 (by omega)
    · refine ev_ldc (z := -1000000002) dX7_storm_10 kc_X7_73 (by decide) ?_
      refine ev_ireturn dX7_storm_12 ?_
      rw [if_pos (by omega)]
      exact ⟨rfl, rfl⟩
