theorem mem_ext {σ τ : Mem} (h : ∀ c k, σ.1 c k = τ.1 c k) (h2 : σ.2 = τ.2) : σ = τ := Prod.ext (funext fun c => funext fun k => h c k) h2
theorem wr_idem (σ : Mem) (c : Nat) (k z : Int) : wr (wr σ c k z) c k z = wr σ c k z := by
  refine mem_ext (fun c9 k9 => ?_) rfl
  repeat rw [wr_at]
  split <;> rfl
theorem wear_L (σ : Mem) (r m : Int) (w rn : Nat) : (wearM σ r m w rn).2 = σ.2 := by
  unfold wearM
  split <;> rfl
theorem wear_40 (σ : Mem) (b z r m : Int) (w rn : Nat) : wr (wearM σ r m w rn) 40 b z = wearM (wr σ 40 b z) r m w rn := by
  refine mem_ext (fun c k => ?_) (by rw [wr_L, wear_L, wear_L, wr_L])
  rw [wearM_at, wr_at, wearM_at, wr_nec σ (show (38 : Nat) ≠ 40 by decide), wr_at]
  by_cases h1 : c = 40 ∧ k = b
  · rw [if_pos h1, if_neg (by omega), if_neg (by omega), if_pos h1]
  · rw [if_neg h1, if_neg h1]
theorem wear_dlv (σ : Mem) (l d h r m : Int) (w rn : Nat) : wearM (wr (wr (wr σ 43 l (-1)) 37 5 d) 37 1 h) r m w rn = wr (wr (wr (wearM σ r m w rn) 43 l (-1)) 37 5 d) 37 1 h := by
  refine mem_ext (fun c k => ?_) (by rw [wear_L, wr_L, wr_L, wr_L, wr_L, wr_L, wr_L, wear_L])
  have e38 : (wr (wr (wr σ 43 l (-1)) 37 5 d) 37 1 h).1 38 r = σ.1 38 r := by
    rw [wr_nec _ (by decide), wr_nec _ (by decide), wr_nec _ (by decide)]
  rw [wearM_at, e38, wr_at, wr_at, wr_at, wr_at, wr_at, wr_at, wearM_at]
  by_cases h1 : c = 38 ∧ k = r
  · repeat' (first | rw [if_pos (by omega)] | rw [if_neg (by omega)])
  · by_cases h2 : c = 37 ∧ k = 3 ∧ ¬ σ.1 38 r + m < 100
    · rw [if_neg h1, if_pos h2]
      repeat' (first | rw [if_pos (by omega)] | rw [if_neg (by omega)])
    · rw [if_neg h1, if_neg h2, if_neg h1, if_neg h2]
theorem MDy.togo {μ σ : Mem} {nr nb nl : Nat} (h : MDy μ σ nr nb nl) (b : Nat) (z0 : Int) : MDy (wr μ 101 b z0) (wr σ 41 b z0) nr nb nl := by
  obtain ⟨⟨a1, a2, a3, a4⟩, hr, hb, hl, hi⟩ := h
  unfold MDy StRel
  refine ⟨⟨?_, ?_, ?_, ?_⟩, fun r9 hr9 => ?_, fun b9 hb9 => ?_, fun l9 hl9 => ?_, fun i9 hi9 => ?_⟩
  · repeat rw [wr_at]
    repeat' (first | rw [if_pos (by omega)] | rw [if_neg (by omega)])
    exact a1
  · repeat rw [wr_at]
    repeat' (first | rw [if_pos (by omega)] | rw [if_neg (by omega)])
    exact a2
  · repeat rw [wr_at]
    repeat' (first | rw [if_pos (by omega)] | rw [if_neg (by omega)])
    exact a3
  · repeat rw [wr_at]
    repeat' (first | rw [if_pos (by omega)] | rw [if_neg (by omega)])
    exact a4
  · have z := hr r9 hr9
    refine ⟨?_, ?_, ?_⟩
    · repeat rw [wr_at]
      repeat' (first | rw [if_pos (by omega)] | rw [if_neg (by omega)])
      exact z.1
    · repeat rw [wr_at]
      repeat' (first | rw [if_pos (by omega)] | rw [if_neg (by omega)])
      exact z.2.1
    · repeat rw [wr_at]
      repeat' (first | rw [if_pos (by omega)] | rw [if_neg (by omega)])
      exact z.2.2
  · have z := hb b9 hb9
    by_cases e : b9 = b
    · subst e
      repeat rw [wr_at]
      repeat' (first | rw [if_pos (by omega)] | rw [if_neg (by omega)])
      exact ⟨z.1, rfl, z.2.2⟩
    · repeat rw [wr_at]
      repeat' (first | rw [if_pos (by omega)] | rw [if_neg (by omega)])
      exact z
  · have z := hl l9 hl9
    refine ⟨?_, ?_, ?_⟩
    · repeat rw [wr_at]
      repeat' (first | rw [if_pos (by omega)] | rw [if_neg (by omega)])
      exact z.1
    · repeat rw [wr_at]
      repeat' (first | rw [if_pos (by omega)] | rw [if_neg (by omega)])
      exact z.2.1
    · repeat rw [wr_at]
      repeat' (first | rw [if_pos (by omega)] | rw [if_neg (by omega)])
      exact z.2.2
  · have z := hi i9 (by
      have hi2 := hi9
      repeat rw [wr_at] at hi2
      repeat (first | rw [if_pos (by omega)] at hi2 | rw [if_neg (by omega)] at hi2)
      exact hi2)
    refine ⟨?_, ?_⟩
    · repeat rw [wr_at]
      repeat' (first | rw [if_pos (by omega)] | rw [if_neg (by omega)])
      exact z.1
    · repeat rw [wr_at]
      repeat' (first | rw [if_pos (by omega)] | rw [if_neg (by omega)])
      exact z.2
theorem MDy.tick {μ σ : Mem} {nr nb nl : Nat} (h : MDy μ σ nr nb nl)  : MDy (wr μ 79 29 (μ.1 79 29 + 1)) (wr σ 37 0 (σ.1 37 0 + 1)) nr nb nl := by
  obtain ⟨⟨a1, a2, a3, a4⟩, hr, hb, hl, hi⟩ := h
  unfold MDy StRel
  refine ⟨⟨?_, ?_, ?_, ?_⟩, fun r9 hr9 => ?_, fun b9 hb9 => ?_, fun l9 hl9 => ?_, fun i9 hi9 => ?_⟩
  · repeat rw [wr_at]
    repeat' (first | rw [if_pos (by omega)] | rw [if_neg (by omega)])
    rw [a1]
  · repeat rw [wr_at]
    repeat' (first | rw [if_pos (by omega)] | rw [if_neg (by omega)])
    exact a2
  · repeat rw [wr_at]
    repeat' (first | rw [if_pos (by omega)] | rw [if_neg (by omega)])
    exact a3
  · repeat rw [wr_at]
    repeat' (first | rw [if_pos (by omega)] | rw [if_neg (by omega)])
    exact a4
  · have z := hr r9 hr9
    refine ⟨?_, ?_, ?_⟩
    · repeat rw [wr_at]
      repeat' (first | rw [if_pos (by omega)] | rw [if_neg (by omega)])
      exact z.1
    · repeat rw [wr_at]
      repeat' (first | rw [if_pos (by omega)] | rw [if_neg (by omega)])
      exact z.2.1
    · repeat rw [wr_at]
      repeat' (first | rw [if_pos (by omega)] | rw [if_neg (by omega)])
      exact z.2.2
  · have z := hb b9 hb9
    repeat rw [wr_at]
    repeat' (first | rw [if_pos (by omega)] | rw [if_neg (by omega)])
    exact z
  · have z := hl l9 hl9
    refine ⟨?_, ?_, ?_⟩
    · repeat rw [wr_at]
      repeat' (first | rw [if_pos (by omega)] | rw [if_neg (by omega)])
      exact z.1
    · repeat rw [wr_at]
      repeat' (first | rw [if_pos (by omega)] | rw [if_neg (by omega)])
      exact z.2.1
    · repeat rw [wr_at]
      repeat' (first | rw [if_pos (by omega)] | rw [if_neg (by omega)])
      exact z.2.2
  · have z := hi i9 (by
      have hi2 := hi9
      repeat rw [wr_at] at hi2
      repeat (first | rw [if_pos (by omega)] at hi2 | rw [if_neg (by omega)] at hi2)
      exact hi2)
    refine ⟨?_, ?_⟩
    · repeat rw [wr_at]
      repeat' (first | rw [if_pos (by omega)] | rw [if_neg (by omega)])
      exact z.1
    · repeat rw [wr_at]
      repeat' (first | rw [if_pos (by omega)] | rw [if_neg (by omega)])
      exact z.2
theorem MDy.arr {μ σ : Mem} {nr nb nl : Nat} (h : MDy μ σ nr nb nl) (b : Nat) : MDy (wr (wr (wr μ 98 b (σ.1 39 b)) 99 b (-1)) 100 b (-1)) (wr σ 40 b (-1)) nr nb nl := by
  obtain ⟨⟨a1, a2, a3, a4⟩, hr, hb, hl, hi⟩ := h
  unfold MDy StRel
  refine ⟨⟨?_, ?_, ?_, ?_⟩, fun r9 hr9 => ?_, fun b9 hb9 => ?_, fun l9 hl9 => ?_, fun i9 hi9 => ?_⟩
  · repeat rw [wr_at]
    repeat' (first | rw [if_pos (by omega)] | rw [if_neg (by omega)])
    exact a1
  · repeat rw [wr_at]
    repeat' (first | rw [if_pos (by omega)] | rw [if_neg (by omega)])
    exact a2
  · repeat rw [wr_at]
    repeat' (first | rw [if_pos (by omega)] | rw [if_neg (by omega)])
    exact a3
  · repeat rw [wr_at]
    repeat' (first | rw [if_pos (by omega)] | rw [if_neg (by omega)])
    exact a4
  · have z := hr r9 hr9
    refine ⟨?_, ?_, ?_⟩
    · repeat rw [wr_at]
      repeat' (first | rw [if_pos (by omega)] | rw [if_neg (by omega)])
      exact z.1
    · repeat rw [wr_at]
      repeat' (first | rw [if_pos (by omega)] | rw [if_neg (by omega)])
      exact z.2.1
    · repeat rw [wr_at]
      repeat' (first | rw [if_pos (by omega)] | rw [if_neg (by omega)])
      exact z.2.2
  · have z := hb b9 hb9
    by_cases e : b9 = b
    · subst e
      repeat rw [wr_at]
      repeat' (first | rw [if_pos (by omega)] | rw [if_neg (by omega)])
      exact ⟨rfl, z.2.1, fun _ => rfl, fun y => absurd rfl y⟩
    · repeat rw [wr_at]
      repeat' (first | rw [if_pos (by omega)] | rw [if_neg (by omega)])
      exact z
  · have z := hl l9 hl9
    refine ⟨?_, ?_, ?_⟩
    · repeat rw [wr_at]
      repeat' (first | rw [if_pos (by omega)] | rw [if_neg (by omega)])
      exact z.1
    · repeat rw [wr_at]
      repeat' (first | rw [if_pos (by omega)] | rw [if_neg (by omega)])
      exact z.2.1
    · repeat rw [wr_at]
      repeat' (first | rw [if_pos (by omega)] | rw [if_neg (by omega)])
      exact z.2.2
  · have z := hi i9 (by
      have hi2 := hi9
      repeat rw [wr_at] at hi2
      repeat (first | rw [if_pos (by omega)] at hi2 | rw [if_neg (by omega)] at hi2)
      exact hi2)
    refine ⟨?_, ?_⟩
    · repeat rw [wr_at]
      repeat' (first | rw [if_pos (by omega)] | rw [if_neg (by omega)])
      exact z.1
    · repeat rw [wr_at]
      repeat' (first | rw [if_pos (by omega)] | rw [if_neg (by omega)])
      exact z.2
theorem MDy.dlv {μ σ : Mem} {nr nb nl : Nat} (h : MDy μ σ nr nb nl) (l d : Nat) (hd : σ.1 37 5 = d) (y : Int) : MDy (wr (wr (wr μ 103 l (-1)) 104 l 1) 79 30 (μ.1 79 30 + y)) (wr (wr (wr σ 43 l (-1)) 37 5 (d ||| 2 ^ l : Nat)) 37 1 (σ.1 37 1 + y)) nr nb nl := by
  obtain ⟨⟨a1, a2, a3, a4⟩, hr, hb, hl, hi⟩ := h
  unfold MDy StRel
  refine ⟨⟨?_, ?_, ?_, ?_⟩, fun r9 hr9 => ?_, fun b9 hb9 => ?_, fun l9 hl9 => ?_, fun i9 hi9 => ?_⟩
  · repeat rw [wr_at]
    repeat' (first | rw [if_pos (by omega)] | rw [if_neg (by omega)])
    exact a1
  · repeat rw [wr_at]
    repeat' (first | rw [if_pos (by omega)] | rw [if_neg (by omega)])
    rw [a2]
  · repeat rw [wr_at]
    repeat' (first | rw [if_pos (by omega)] | rw [if_neg (by omega)])
    exact a3
  · repeat rw [wr_at]
    repeat' (first | rw [if_pos (by omega)] | rw [if_neg (by omega)])
    exact a4
  · have z := hr r9 hr9
    refine ⟨?_, ?_, ?_⟩
    · repeat rw [wr_at]
      repeat' (first | rw [if_pos (by omega)] | rw [if_neg (by omega)])
      exact z.1
    · repeat rw [wr_at]
      repeat' (first | rw [if_pos (by omega)] | rw [if_neg (by omega)])
      exact z.2.1
    · repeat rw [wr_at]
      repeat' (first | rw [if_pos (by omega)] | rw [if_neg (by omega)])
      exact z.2.2
  · have z := hb b9 hb9
    repeat rw [wr_at]
    repeat' (first | rw [if_pos (by omega)] | rw [if_neg (by omega)])
    exact z
  · have z := hl l9 hl9
    by_cases e : l9 = l
    · subst e
      repeat rw [wr_at]
      repeat' (first | rw [if_pos (by omega)] | rw [if_neg (by omega)])
      rw [show (((d ||| 2 ^ l9 : Nat) : Int)).toNat = d ||| 2 ^ l9 from rfl, b2_t (by rw [or_bit]; simp)]
      exact ⟨z.1, rfl, rfl⟩
    · repeat rw [wr_at]
      repeat' (first | rw [if_pos (by omega)] | rw [if_neg (by omega)])
      rw [show (((d ||| 2 ^ l : Nat) : Int)).toNat = d ||| 2 ^ l from rfl, b2_congr (show ((d ||| 2 ^ l).testBit l9 = true) ↔ (d.testBit l9 = true) by rw [or_bit]; simp [Ne.symm e]), ← tB hd]
      exact z
  · have z := hi i9 (by
      have hi2 := hi9
      repeat rw [wr_at] at hi2
      repeat (first | rw [if_pos (by omega)] at hi2 | rw [if_neg (by omega)] at hi2)
      exact hi2)
    refine ⟨?_, ?_⟩
    · repeat rw [wr_at]
      repeat' (first | rw [if_pos (by omega)] | rw [if_neg (by omega)])
      exact z.1
    · repeat rw [wr_at]
      repeat' (first | rw [if_pos (by omega)] | rw [if_neg (by omega)])
      exact z.2
theorem MDy.wearS {μ σ : Mem} {nr nb nl : Nat} (h : MDy μ σ nr nb nl) (w r : Nat) (hw : σ.1 37 3 = w) (m x : Int) (hx : x = b2 (w.testBit r = false ∨ ¬ σ.1 38 r + m < 100)) : MDy (wr (wr μ 95 r (σ.1 38 r + m)) 97 r x) (wearM σ r m w r) nr nb nl := by
  obtain ⟨⟨a1, a2, a3, a4⟩, hr, hb, hl, hi⟩ := h
  have e37 : ∀ k : Int, k ≠ 3 → (wearM σ r m w r).1 37 k = σ.1 37 k := fun k hk => by rw [wearM_at, if_neg (by omega), if_neg (by omega)]
  have eo : ∀ c : Nat, c ≠ 37 → c ≠ 38 → ∀ k : Int, (wearM σ r m w r).1 c k = σ.1 c k := fun c h1 h2 k => by rw [wearM_at, if_neg (by omega), if_neg (by omega)]
  have em : ∀ c : Nat, c ≠ 95 → c ≠ 97 → (wr (wr μ 95 r (σ.1 38 r + m)) 97 r x).1 c = μ.1 c := fun c h1 h2 => funext fun k => by rw [wr_nec _ h2, wr_nec _ h1]
  unfold MDy StRel
  rw [em 79 (by decide) (by decide), em 96 (by decide) (by decide), em 98 (by decide) (by decide), em 99 (by decide) (by decide), em 100 (by decide) (by decide), em 101 (by decide) (by decide), em 102 (by decide) (by decide), em 103 (by decide) (by decide), em 104 (by decide) (by decide), em 105 (by decide) (by decide), em 106 (by decide) (by decide)]
  refine ⟨⟨by rw [e37 _ (by decide)]; exact a1, by rw [e37 _ (by decide)]; exact a2, by rw [e37 _ (by decide)]; exact a3, by rw [e37 _ (by decide)]; exact a4⟩, fun r9 hr9 => ?_, fun b9 hb9 => ?_, fun l9 hl9 => ?_, fun i9 hi9 => ?_⟩
  · have z := hr r9 hr9
    rw [e37 4 (by decide)]
    refine ⟨?_, z.2.1, ?_⟩
    · rw [wearM_at, wr_nec _ (by decide), wr_at]
      by_cases e : r9 = r
      · subst e; rw [if_pos ⟨rfl, rfl⟩, if_pos ⟨rfl, rfl⟩]
      · rw [if_neg (by omega), if_neg (by omega), if_neg (by omega)]; exact z.1
    · rw [wr_at, wearM_at, if_neg (show ¬ ((37 : Nat) = 38 ∧ (3 : Int) = r) by omega)]
      have z2 := z.2.2
      rw [tB hw] at z2
      by_cases e : r9 = r
      · subst e
        rw [if_pos ⟨rfl, rfl⟩, hx]
        refine b2_congr ?_
        by_cases q : σ.1 38 r9 + m < 100
        · rw [if_neg (fun y => y.2.2 q), tB hw]
          exact ⟨fun y => y.resolve_right (fun y2 => y2 q), fun y => Or.inl y⟩
        · rw [if_pos ⟨rfl, rfl, q⟩]
          refine ⟨fun _ => ?_, fun _ => Or.inr q⟩
          show (andn w (2 ^ r9)).testBit r9 = false
          rw [andn_bit]; simp
      · rw [if_neg (by omega), wr_nec _ (by decide), z2]
        refine b2_congr ?_
        by_cases q : σ.1 38 r + m < 100
        · rw [if_neg (fun y => y.2.2 q), tB hw]
        · rw [if_pos ⟨rfl, rfl, q⟩]
          show _ ↔ (andn w (2 ^ r)).testBit r9 = false
          rw [andn_bit]
          simp [Ne.symm e]
  · have z := hb b9 hb9
    rw [eo 39 (by decide) (by decide), eo 40 (by decide) (by decide), eo 41 (by decide) (by decide)]
    exact z
  · have z := hl l9 hl9
    rw [eo 42 (by decide) (by decide), eo 43 (by decide) (by decide), e37 5 (by decide)]
    exact z
  · rw [e37 6 (by decide)] at hi9
    have z := hi i9 hi9
    rw [eo 44 (by decide) (by decide), eo 45 (by decide) (by decide)]
    exact z
theorem m_arrive (μ σ : Mem) (P n nr nb nl w dv b r : Nat) (f t : Nat → Nat) (hPO : PlanOk σ P n nr nb nl f t) (hMP : MPl μ σ P n nr nb nl) (hMD : MDy μ σ nr nb nl) (hb : b < nb) (hr : r < nr) (hbr : σ.1 40 b = r) (hb39 : 0 ≤ σ.1 39 b ∧ σ.1 39 b < n) (hw : σ.1 37 3 = w) (hdv : σ.1 37 5 = dv) (hh0 : 0 ≤ σ.1 37 1) (hh1 : σ.1 37 1 ≤ 100000) (hwr0 : 0 ≤ σ.1 38 r) (hwr1 : σ.1 38 r ≤ 1000) : Con yX8_arrive cX8_arrive 4 none 2 45 [.ref 79, .int (iI b)] μ (AnsVP (fun ν => MSame μ ν ∧ MDy ν (arvM σ P nl w dv b r) nr nb nl)) := by
  refine con_of (by decide) rfl (Nat.le_of_ble_eq_true rfl) (ok_VP rfl) ?_
  refine ev_w (fun hR => ?_)
  have hR0 := hR
  obtain ⟨hPR, ⟨hnb, hnb4⟩, ⟨hnl, hnl4⟩, hpo, hro, hbo, hlo⟩ := id hPO
  obtain ⟨hP, hn, hn8, hnr, hnr12, hft⟩ := id hPR
  obtain ⟨⟨cn, cr, cb, cl⟩, mp, mr, mbo, ml⟩ := id hMP
  obtain ⟨⟨dmi, dha, dri, dse⟩, dr, db, dl, dri2⟩ := id hMD
  have hrp : MRp μ σ P n nr nb nl (σ.1 37 3).toNat (σ.1 37 4).toNat f t := ⟨hPO, hMP, fun r9 hr9 => (dr r9 hr9).2⟩
  have hcs := carS_lt σ hnl4 (b : Int)
  have hwb := wearBy_R hPO hb
  have hdb := db b hb
  have hne : σ.1 40 b ≠ -1 := by omega
  have hgs := fun (l : Nat) (hl : l ≤ nl) => gsum_R hPO (dlvP σ P nl b) hl
  have hcut := (dr r hr).2.2
  rw [tB hw] at hcut
  have ht9 : ∀ l, ∀ c k, (wearM (arF (wr σ 40 b (-1)) (dlvP σ P nl b) (gain σ P) dv l) r (wearBy σ P nl b) w r).1 c k = if c = 38 ∧ k = r then (arF (wr σ 40 b (-1)) (dlvP σ P nl b) (gain σ P) dv l).1 38 r + wearBy σ P nl b else if c = 37 ∧ k = 3 ∧ ¬ (arF (wr σ 40 b (-1)) (dlvP σ P nl b) (gain σ P) dv l).1 38 r + wearBy σ P nl b < 100 then ((andn w (2 ^ r) : Nat) : Int) else (arF (wr σ 40 b (-1)) (dlvP σ P nl b) (gain σ P) dv l).1 c k := fun l c k => wearM_at _ _ _ _ _ _ _
  have loop : ∀ l : Nat, l ≤ nl → ∀ ν, MSame μ ν ∧ MDy ν (wearM (arF (wr σ 40 b (-1)) (dlvP σ P nl b) (gain σ P) dv l) r (wearBy σ P nl b) w r) nr nb nl → Ev RX8 cX8_arrive 4 2 45 (AnsVP (fun ν => MSame μ ν ∧ MDy ν (arvM σ P nl w dv b r) nr nb nl)) 90 [some (.ref 79), some (.int (iI b)), some (.int (iI r)), some (.int (iI (l : Nat)))] [] ν := by
    refine for_up nl (fun l hl ih => ?_)
    intro ν hν
    obtain ⟨hS, hD⟩ := hν
    refine ev_w (fun hR => ?_)
    have hcl : ν.1 79 13 = nl := by rw [hS.2.1 _ (by decide) (by decide) (by decide) (by decide)]; exact cl
    have hrow : ∀ c, 80 ≤ c → c ≤ 94 → ν.1 c = μ.1 c := fun c h1 h2 => hS.1 c (by omega)
    refine ev_iload_n dX8_arrive_90 rfl ?_
    refine ev_aload_n dX8_arrive_91 rfl ?_
    refine ev_getI (kz := 13) dX8_arrive_92 fl_X8_190 rfl rfl rfl ?_
    rw [hcl]
    refine ev_icmp_ge (tgt := 181) dX8_arrive_95 (by decide) (by first | exact hR.1 _ _ | exact hR0.1 _ _ | assumption | exact ⟨by omega, by omega⟩ | exact ⟨by simp [wr_at]; omega, by simp [wr_at]; omega⟩ | exact b2_R _ | exact bC_R _ | exact band_R _ _ | exact bor_R _ _ | exact bshl_R _ _ | exact bshr_R _ _ | exact bxor_R _ _ | exact bs_R (by omega) | decide) (by first | exact hR.1 _ _ | exact hR0.1 _ _ | assumption | exact ⟨by omega, by omega⟩ | exact ⟨by simp [wr_at]; omega, by simp [wr_at]; omega⟩ | exact b2_R _ | exact bC_R _ | exact band_R _ _ | exact bor_R _ _ | exact bshl_R _ _ | exact bshr_R _ _ | exact bxor_R _ _ | exact bs_R (by omega) | decide) (fun h_95 => ?_) (fun h_95 => ?_)
    · refine ev_return dX8_arrive_181 ?_
      obtain rfl : l = nl := by omega
      exact ⟨rfl, hS, hD⟩
    · have hln : l < nl := by omega
      have hdl := (hD.2.2.2.1 l hln).2.1
      have e43 : ν.1 103 (l : Int) = σ.1 43 l := by
        rw [hdl, ht9, if_neg (by omega), if_neg (by omega), arF_at, if_neg (by omega), if_neg (by omega), if_neg (by omega), wr_nec _ (by decide)]
      have e40 : (wearM (arF (wr σ 40 b (-1)) (dlvP σ P nl b) (gain σ P) dv l) r (wearBy σ P nl b) w r).1 40 (b : Int) = -1 := by
        rw [ht9, if_neg (by omega), if_neg (by omega), arF_c (by decide) (by decide), wr_eq]
      have e98 : ν.1 98 (b : Int) = σ.1 39 b := by
        rw [(hD.2.2.1 b hb).2.2.1 e40, ht9, if_neg (by omega), if_neg (by omega), arF_c (by decide) (by decide), wr_nec _ (by decide)]
      have e91 : ν.1 91 (l : Int) = σ.1 (P + 13) l := by rw [hrow 91 (by decide) (by decide)]; exact (ml l hln).2.1
      have e93 : ν.1 93 (l : Int) = σ.1 (P + 15) l := by rw [hrow 93 (by decide) (by decide)]; exact (ml l hln).2.2.2.1
      have e94 : ν.1 94 (l : Int) = σ.1 (P + 16) l := by rw [hrow 94 (by decide) (by decide)]; exact (ml l hln).2.2.2.2
      have eha : ν.1 79 30 = σ.1 37 1 + sumI (fun i => if dlvP σ P nl b i then gain σ P i else 0) l := by
        rw [hD.1.2.1, ht9, if_neg (by omega), if_neg (by omega), arF_1, wr_nec _ (by decide)]
      have emi : ν.1 79 29 = σ.1 37 0 := by
        rw [hD.1.1, ht9, if_neg (by omega), if_neg (by omega), arF_37 (by decide) (by decide), wr_nec _ (by decide)]
      have hgl := hgs l (by omega)
      have hwo := (hlo l hln).2.2.2.2.1
      have hki := (hlo l hln).2.2.2.2.2
      have hmiR : inR (σ.1 37 0) := by rw [← emi]; exact hR.1 _ _
      have hpe : dlvP σ P nl b l = decide (σ.1 43 l = b ∧ σ.1 (P + 13) l = σ.1 39 b) := by
        unfold dlvP carS
        rw [bs_test]
        simp [hln]
      refine ev_aload_n dX8_arrive_98 rfl ?_
      refine ev_getR (r := 103) dX8_arrive_99 fl_X8_80 rfl rfl rfl ?_
      refine ev_iload_n dX8_arrive_102 rfl ?_
      refine ev_iaload dX8_arrive_103 rfl (by first | omega | (simp [wr_at]; omega) | (simp [wr_at, *]; omega)) (by first | omega | (simp [wr_at]; omega) | (simp [wr_at, *]; omega)) (by decide) ?_
      skip
      refine ev_iload_n dX8_arrive_104 rfl ?_
      refine ev_icmp_ne (tgt := 175) dX8_arrive_105 (by decide) (by first | exact hR.1 _ _ | exact hR0.1 _ _ | assumption | exact ⟨by omega, by omega⟩ | exact ⟨by simp [wr_at]; omega, by simp [wr_at]; omega⟩ | exact b2_R _ | exact bC_R _ | exact band_R _ _ | exact bor_R _ _ | exact bshl_R _ _ | exact bshr_R _ _ | exact bxor_R _ _ | exact bs_R (by omega) | decide) (by first | exact hR.1 _ _ | exact hR0.1 _ _ | assumption | exact ⟨by omega, by omega⟩ | exact ⟨by simp [wr_at]; omega, by simp [wr_at]; omega⟩ | exact b2_R _ | exact bC_R _ | exact band_R _ _ | exact bor_R _ _ | exact bshl_R _ _ | exact bshr_R _ _ | exact bxor_R _ _ | exact bs_R (by omega) | decide) (fun h_105 => ?_) (fun h_105 => ?_)
      · refine ev_iinc dX8_arrive_175 rfl rfl (by decide) rfl ?_
        refine ev_goto (tgt := 90) dX8_arrive_178 (by decide) ?_
        first
          | (have hpf : dlvP σ P nl b l = false := by
               rw [hpe]
               refine decide_eq_false (fun y => ?_)
               first
                 | exact h_105 (by rw [e43]; exact y.1)
                 | exact h_120 (by rw [e91, e98]; exact y.2)
             have q := ih (by omega) ν ⟨hS, by rw [arF_n hpf]; exact hD⟩
             exact q)
          | (have hpt : dlvP σ P nl b l = true := by
               rw [hpe]
               exact decide_eq_true ⟨by rw [← e43]; exact h_105, by rw [← e91, ← e98]; exact h_120⟩
             have hd9 : (wearM (arF (wr σ 40 b (-1)) (dlvP σ P nl b) (gain σ P) dv l) r (wearBy σ P nl b) w r).1 37 5 = (dv ||| bs (dlvP σ P nl b) l : Nat) := by
               rw [ht9, if_neg (by omega), if_neg (by omega), arF_5]
             have hT1 : (wearM (arF (wr σ 40 b (-1)) (dlvP σ P nl b) (gain σ P) dv l) r (wearBy σ P nl b) w r).1 37 1 = σ.1 37 1 + sumI (fun i => if dlvP σ P nl b i then gain σ P i else 0) l := by
               rw [ht9, if_neg (by omega), if_neg (by omega), arF_1, wr_nec _ (by decide)]
             have hD2 := MDy.dlv hD l _ hd9 (gain σ P l)
             rw [hT1, ← wear_dlv] at hD2
             have hy := arF_y (σ := wr σ 40 (b : Int) (-1)) (g := gain σ P) (dv := dv) hpt
             rw [show (wr σ 40 (b : Int) (-1)).1 37 1 = σ.1 37 1 from wr_nec σ (by decide)] at hy
             rw [hy] at hD2
             have hS2 : MSame μ (wr (wr (wr ν 103 (l : Int) (-1)) 104 (l : Int) 1) 79 30 (ν.1 79 30 + gain σ P l)) := ((hS.wrc _ _ (by decide) (by decide)).wrc _ _ (by decide) (by decide)).wf _ (by decide)
             have q := ih (by omega) _ ⟨hS2, hD2⟩
             have hgz : gain σ P l = σ.1 (P + 15) l := by
               unfold gain
               rw [if_pos (by first | exact Or.inl (by rw [← e94]; assumption) | exact Or.inr (by rw [← emi]; assumption) | exact Or.inr (by omega) | exact Or.inl (by omega))]
             rw [hgz, eha] at q
             exact q)
          | (have hpt : dlvP σ P nl b l = true := by
               rw [hpe]
               exact decide_eq_true ⟨by rw [← e43]; exact h_105, by rw [← e91, ← e98]; exact h_120⟩
             have hd9 : (wearM (arF (wr σ 40 b (-1)) (dlvP σ P nl b) (gain σ P) dv l) r (wearBy σ P nl b) w r).1 37 5 = (dv ||| bs (dlvP σ P nl b) l : Nat) := by
               rw [ht9, if_neg (by omega), if_neg (by omega), arF_5]
             have hT1 : (wearM (arF (wr σ 40 b (-1)) (dlvP σ P nl b) (gain σ P) dv l) r (wearBy σ P nl b) w r).1 37 1 = σ.1 37 1 + sumI (fun i => if dlvP σ P nl b i then gain σ P i else 0) l := by
               rw [ht9, if_neg (by omega), if_neg (by omega), arF_1, wr_nec _ (by decide)]
             have hD2 := MDy.dlv hD l _ hd9 (gain σ P l)
             rw [hT1, ← wear_dlv] at hD2
             have hy := arF_y (σ := wr σ 40 (b : Int) (-1)) (g := gain σ P) (dv := dv) hpt
             rw [show (wr σ 40 (b : Int) (-1)).1 37 1 = σ.1 37 1 from wr_nec σ (by decide)] at hy
             rw [hy] at hD2
             have hS2 : MSame μ (wr (wr (wr ν 103 (l : Int) (-1)) 104 (l : Int) 1) 79 30 (ν.1 79 30 + gain σ P l)) := ((hS.wrc _ _ (by decide) (by decide)).wrc _ _ (by decide) (by decide)).wf _ (by decide)
             have q := ih (by omega) _ ⟨hS2, hD2⟩
             have hgz : gain σ P l = 0 := by
               unfold gain
               rw [if_neg (by omega)]
             rw [hgz, eha] at q
             exact q)
      · refine ev_aload_n dX8_arrive_108 rfl ?_
        refine ev_getR (r := 91) dX8_arrive_109 fl_X8_43 rfl rfl rfl ?_
        refine ev_iload_n dX8_arrive_112 rfl ?_
        refine ev_iaload dX8_arrive_113 rfl (by first | omega | (simp [wr_at]; omega) | (simp [wr_at, *]; omega)) (by first | omega | (simp [wr_at]; omega) | (simp [wr_at, *]; omega)) (by decide) ?_
        refine ev_aload_n dX8_arrive_114 rfl ?_
        refine ev_getR (r := 98) dX8_arrive_115 fl_X8_65 rfl rfl rfl ?_
        refine ev_iload_n dX8_arrive_118 rfl ?_
        refine ev_iaload dX8_arrive_119 rfl (by first | omega | (simp [wr_at]; omega) | (simp [wr_at, *]; omega)) (by first | omega | (simp [wr_at]; omega) | (simp [wr_at, *]; omega)) (by decide) ?_
        refine ev_icmp_ne (tgt := 175) dX8_arrive_120 (by decide) (by first | exact hR.1 _ _ | exact hR0.1 _ _ | assumption | exact ⟨by omega, by omega⟩ | exact ⟨by simp [wr_at]; omega, by simp [wr_at]; omega⟩ | exact b2_R _ | exact bC_R _ | exact band_R _ _ | exact bor_R _ _ | exact bshl_R _ _ | exact bshr_R _ _ | exact bxor_R _ _ | exact bs_R (by omega) | decide) (by first | exact hR.1 _ _ | exact hR0.1 _ _ | assumption | exact ⟨by omega, by omega⟩ | exact ⟨by simp [wr_at]; omega, by simp [wr_at]; omega⟩ | exact b2_R _ | exact bC_R _ | exact band_R _ _ | exact bor_R _ _ | exact bshl_R _ _ | exact bshr_R _ _ | exact bxor_R _ _ | exact bs_R (by omega) | decide) (fun h_120 => ?_) (fun h_120 => ?_)
        · refine ev_iinc dX8_arrive_175 rfl rfl (by decide) rfl ?_
          refine ev_goto (tgt := 90) dX8_arrive_178 (by decide) ?_
          first
            | (have hpf : dlvP σ P nl b l = false := by
                 rw [hpe]
                 refine decide_eq_false (fun y => ?_)
                 first
                   | exact h_105 (by rw [e43]; exact y.1)
                   | exact h_120 (by rw [e91, e98]; exact y.2)
               have q := ih (by omega) ν ⟨hS, by rw [arF_n hpf]; exact hD⟩
               exact q)
            | (have hpt : dlvP σ P nl b l = true := by
                 rw [hpe]
                 exact decide_eq_true ⟨by rw [← e43]; exact h_105, by rw [← e91, ← e98]; exact h_120⟩
               have hd9 : (wearM (arF (wr σ 40 b (-1)) (dlvP σ P nl b) (gain σ P) dv l) r (wearBy σ P nl b) w r).1 37 5 = (dv ||| bs (dlvP σ P nl b) l : Nat) := by
                 rw [ht9, if_neg (by omega), if_neg (by omega), arF_5]
               have hT1 : (wearM (arF (wr σ 40 b (-1)) (dlvP σ P nl b) (gain σ P) dv l) r (wearBy σ P nl b) w r).1 37 1 = σ.1 37 1 + sumI (fun i => if dlvP σ P nl b i then gain σ P i else 0) l := by
                 rw [ht9, if_neg (by omega), if_neg (by omega), arF_1, wr_nec _ (by decide)]
               have hD2 := MDy.dlv hD l _ hd9 (gain σ P l)
               rw [hT1, ← wear_dlv] at hD2
               have hy := arF_y (σ := wr σ 40 (b : Int) (-1)) (g := gain σ P) (dv := dv) hpt
               rw [show (wr σ 40 (b : Int) (-1)).1 37 1 = σ.1 37 1 from wr_nec σ (by decide)] at hy
               rw [hy] at hD2
               have hS2 : MSame μ (wr (wr (wr ν 103 (l : Int) (-1)) 104 (l : Int) 1) 79 30 (ν.1 79 30 + gain σ P l)) := ((hS.wrc _ _ (by decide) (by decide)).wrc _ _ (by decide) (by decide)).wf _ (by decide)
               have q := ih (by omega) _ ⟨hS2, hD2⟩
               have hgz : gain σ P l = σ.1 (P + 15) l := by
                 unfold gain
                 rw [if_pos (by first | exact Or.inl (by rw [← e94]; assumption) | exact Or.inr (by rw [← emi]; assumption) | exact Or.inr (by omega) | exact Or.inl (by omega))]
               rw [hgz, eha] at q
               exact q)
            | (have hpt : dlvP σ P nl b l = true := by
                 rw [hpe]
                 exact decide_eq_true ⟨by rw [← e43]; exact h_105, by rw [← e91, ← e98]; exact h_120⟩
               have hd9 : (wearM (arF (wr σ 40 b (-1)) (dlvP σ P nl b) (gain σ P) dv l) r (wearBy σ P nl b) w r).1 37 5 = (dv ||| bs (dlvP σ P nl b) l : Nat) := by
                 rw [ht9, if_neg (by omega), if_neg (by omega), arF_5]
               have hT1 : (wearM (arF (wr σ 40 b (-1)) (dlvP σ P nl b) (gain σ P) dv l) r (wearBy σ P nl b) w r).1 37 1 = σ.1 37 1 + sumI (fun i => if dlvP σ P nl b i then gain σ P i else 0) l := by
                 rw [ht9, if_neg (by omega), if_neg (by omega), arF_1, wr_nec _ (by decide)]
               have hD2 := MDy.dlv hD l _ hd9 (gain σ P l)
               rw [hT1, ← wear_dlv] at hD2
               have hy := arF_y (σ := wr σ 40 (b : Int) (-1)) (g := gain σ P) (dv := dv) hpt
               rw [show (wr σ 40 (b : Int) (-1)).1 37 1 = σ.1 37 1 from wr_nec σ (by decide)] at hy
               rw [hy] at hD2
               have hS2 : MSame μ (wr (wr (wr ν 103 (l : Int) (-1)) 104 (l : Int) 1) 79 30 (ν.1 79 30 + gain σ P l)) := ((hS.wrc _ _ (by decide) (by decide)).wrc _ _ (by decide) (by decide)).wf _ (by decide)
               have q := ih (by omega) _ ⟨hS2, hD2⟩
               have hgz : gain σ P l = 0 := by
                 unfold gain
                 rw [if_neg (by omega)]
               rw [hgz, eha] at q
               exact q)
        · refine ev_aload_n dX8_arrive_123 rfl ?_
          refine ev_getR (r := 103) dX8_arrive_124 fl_X8_80 rfl rfl rfl ?_
          refine ev_iload_n dX8_arrive_127 rfl ?_
          refine ev_iconst dX8_arrive_128 ?_
          refine ev_iastore dX8_arrive_129 rfl (by first | omega | (simp [wr_at]; omega) | (simp [wr_at, *]; omega)) (by first | omega | (simp [wr_at]; omega) | (simp [wr_at, *]; omega)) (by decide) (by first | exact hR.1 _ _ | exact hR0.1 _ _ | assumption | exact ⟨by omega, by omega⟩ | exact ⟨by simp [wr_at]; omega, by simp [wr_at]; omega⟩ | exact b2_R _ | exact bC_R _ | exact band_R _ _ | exact bor_R _ _ | exact bshl_R _ _ | exact bshr_R _ _ | exact bxor_R _ _ | exact bs_R (by omega) | decide) ?_
          refine ev_w (fun hR => ?_)
          refine ev_aload_n dX8_arrive_130 rfl ?_
          refine ev_getR (r := 104) dX8_arrive_131 fl_X8_83 rfl rfl rfl ?_
          refine ev_iload_n dX8_arrive_134 rfl ?_
          refine ev_iconst dX8_arrive_135 ?_
          refine ev_zastore dX8_arrive_136 rfl (by first | omega | (simp [wr_at]; omega) | (simp [wr_at, *]; omega)) (by first | omega | (simp [wr_at]; omega) | (simp [wr_at, *]; omega)) (by decide) (by first | exact Or.inl rfl | exact Or.inr rfl | omega) ?_
          refine ev_w (fun hR => ?_)
          refine ev_aload_n dX8_arrive_137 rfl ?_
          refine ev_dup dX8_arrive_138 rfl ?_
          refine ev_getI (kz := 30) dX8_arrive_139 fl_X8_196 rfl rfl rfl ?_
          rw [wr_nec _ (by decide), wr_nec _ (by decide), eha]
          refine ev_aload_n dX8_arrive_142 rfl ?_
          refine ev_getR (r := 94) dX8_arrive_143 fl_X8_52 rfl rfl rfl ?_
          refine ev_iload_n dX8_arrive_146 rfl ?_
          refine ev_iaload dX8_arrive_147 rfl (by first | omega | (simp [wr_at]; omega) | (simp [wr_at, *]; omega)) (by first | omega | (simp [wr_at]; omega) | (simp [wr_at, *]; omega)) (by decide) ?_
          rw [wr_nec _ (by decide), wr_nec _ (by decide), e94]
          refine ev_iconst dX8_arrive_148 ?_
          refine ev_icmp_ne (tgt := 165) dX8_arrive_149 (by decide) (by first | exact hR.1 _ _ | exact hR0.1 _ _ | assumption | exact ⟨by omega, by omega⟩ | exact ⟨by simp [wr_at]; omega, by simp [wr_at]; omega⟩ | exact b2_R _ | exact bC_R _ | exact band_R _ _ | exact bor_R _ _ | exact bshl_R _ _ | exact bshr_R _ _ | exact bxor_R _ _ | exact bs_R (by omega) | decide) (by first | exact hR.1 _ _ | exact hR0.1 _ _ | assumption | exact ⟨by omega, by omega⟩ | exact ⟨by simp [wr_at]; omega, by simp [wr_at]; omega⟩ | exact b2_R _ | exact bC_R _ | exact band_R _ _ | exact bor_R _ _ | exact bshl_R _ _ | exact bshr_R _ _ | exact bxor_R _ _ | exact bs_R (by omega) | decide) (fun h_149 => ?_) (fun h_149 => ?_)
          · refine ev_aload_n dX8_arrive_165 rfl ?_
            refine ev_getR (r := 93) dX8_arrive_166 fl_X8_49 rfl rfl rfl ?_
            refine ev_iload_n dX8_arrive_169 rfl ?_
            refine ev_iaload dX8_arrive_170 rfl (by first | omega | (simp [wr_at]; omega) | (simp [wr_at, *]; omega)) (by first | omega | (simp [wr_at]; omega) | (simp [wr_at, *]; omega)) (by decide) ?_
            try rw [wr_nec _ (by decide), wr_nec _ (by decide), e93]
            refine ev_iadd dX8_arrive_171 ?_
            refine ev_putI (kz := 30) dX8_arrive_172 fp_X8_196 rfl rfl rfl (by first | exact ⟨by omega, by omega⟩ | (rw [wr_nec _ (by decide), wr_nec _ (by decide), e93]; exact ⟨by omega, by omega⟩)) ?_
            refine ev_w (fun hR => ?_)
            refine ev_iinc dX8_arrive_175 rfl rfl (by decide) rfl ?_
            refine ev_goto (tgt := 90) dX8_arrive_178 (by decide) ?_
            first
              | (have hpf : dlvP σ P nl b l = false := by
                   rw [hpe]
                   refine decide_eq_false (fun y => ?_)
                   first
                     | exact h_105 (by rw [e43]; exact y.1)
                     | exact h_120 (by rw [e91, e98]; exact y.2)
                 have q := ih (by omega) ν ⟨hS, by rw [arF_n hpf]; exact hD⟩
                 exact q)
              | (have hpt : dlvP σ P nl b l = true := by
                   rw [hpe]
                   exact decide_eq_true ⟨by rw [← e43]; exact h_105, by rw [← e91, ← e98]; exact h_120⟩
                 have hd9 : (wearM (arF (wr σ 40 b (-1)) (dlvP σ P nl b) (gain σ P) dv l) r (wearBy σ P nl b) w r).1 37 5 = (dv ||| bs (dlvP σ P nl b) l : Nat) := by
                   rw [ht9, if_neg (by omega), if_neg (by omega), arF_5]
                 have hT1 : (wearM (arF (wr σ 40 b (-1)) (dlvP σ P nl b) (gain σ P) dv l) r (wearBy σ P nl b) w r).1 37 1 = σ.1 37 1 + sumI (fun i => if dlvP σ P nl b i then gain σ P i else 0) l := by
                   rw [ht9, if_neg (by omega), if_neg (by omega), arF_1, wr_nec _ (by decide)]
                 have hD2 := MDy.dlv hD l _ hd9 (gain σ P l)
                 rw [hT1, ← wear_dlv] at hD2
                 have hy := arF_y (σ := wr σ 40 (b : Int) (-1)) (g := gain σ P) (dv := dv) hpt
                 rw [show (wr σ 40 (b : Int) (-1)).1 37 1 = σ.1 37 1 from wr_nec σ (by decide)] at hy
                 rw [hy] at hD2
                 have hS2 : MSame μ (wr (wr (wr ν 103 (l : Int) (-1)) 104 (l : Int) 1) 79 30 (ν.1 79 30 + gain σ P l)) := ((hS.wrc _ _ (by decide) (by decide)).wrc _ _ (by decide) (by decide)).wf _ (by decide)
                 have q := ih (by omega) _ ⟨hS2, hD2⟩
                 have hgz : gain σ P l = σ.1 (P + 15) l := by
                   unfold gain
                   rw [if_pos (by first | exact Or.inl (by rw [← e94]; assumption) | exact Or.inr (by rw [← emi]; assumption) | exact Or.inr (by omega) | exact Or.inl (by omega))]
                 rw [hgz, eha] at q
                 exact q)
              | (have hpt : dlvP σ P nl b l = true := by
                   rw [hpe]
                   exact decide_eq_true ⟨by rw [← e43]; exact h_105, by rw [← e91, ← e98]; exact h_120⟩
                 have hd9 : (wearM (arF (wr σ 40 b (-1)) (dlvP σ P nl b) (gain σ P) dv l) r (wearBy σ P nl b) w r).1 37 5 = (dv ||| bs (dlvP σ P nl b) l : Nat) := by
                   rw [ht9, if_neg (by omega), if_neg (by omega), arF_5]
                 have hT1 : (wearM (arF (wr σ 40 b (-1)) (dlvP σ P nl b) (gain σ P) dv l) r (wearBy σ P nl b) w r).1 37 1 = σ.1 37 1 + sumI (fun i => if dlvP σ P nl b i then gain σ P i else 0) l := by
                   rw [ht9, if_neg (by omega), if_neg (by omega), arF_1, wr_nec _ (by decide)]
                 have hD2 := MDy.dlv hD l _ hd9 (gain σ P l)
                 rw [hT1, ← wear_dlv] at hD2
                 have hy := arF_y (σ := wr σ 40 (b : Int) (-1)) (g := gain σ P) (dv := dv) hpt
                 rw [show (wr σ 40 (b : Int) (-1)).1 37 1 = σ.1 37 1 from wr_nec σ (by decide)] at hy
                 rw [hy] at hD2
                 have hS2 : MSame μ (wr (wr (wr ν 103 (l : Int) (-1)) 104 (l : Int) 1) 79 30 (ν.1 79 30 + gain σ P l)) := ((hS.wrc _ _ (by decide) (by decide)).wrc _ _ (by decide) (by decide)).wf _ (by decide)
                 have q := ih (by omega) _ ⟨hS2, hD2⟩
                 have hgz : gain σ P l = 0 := by
                   unfold gain
                   rw [if_neg (by omega)]
                 rw [hgz, eha] at q
                 exact q)
          · refine ev_aload_n dX8_arrive_152 rfl ?_
            refine ev_getI (kz := 29) dX8_arrive_153 fl_X8_193 rfl rfl rfl ?_
            rw [wr_nec _ (by decide), wr_nec _ (by decide), emi]
            refine ev_bipush dX8_arrive_156 (by decide) ?_
            refine ev_icmp_le (tgt := 165) dX8_arrive_158 (by decide) (by first | exact hR.1 _ _ | exact hR0.1 _ _ | assumption | exact ⟨by omega, by omega⟩ | exact ⟨by simp [wr_at]; omega, by simp [wr_at]; omega⟩ | exact b2_R _ | exact bC_R _ | exact band_R _ _ | exact bor_R _ _ | exact bshl_R _ _ | exact bshr_R _ _ | exact bxor_R _ _ | exact bs_R (by omega) | decide) (by first | exact hR.1 _ _ | exact hR0.1 _ _ | assumption | exact ⟨by omega, by omega⟩ | exact ⟨by simp [wr_at]; omega, by simp [wr_at]; omega⟩ | exact b2_R _ | exact bC_R _ | exact band_R _ _ | exact bor_R _ _ | exact bshl_R _ _ | exact bshr_R _ _ | exact bxor_R _ _ | exact bs_R (by omega) | decide) (fun h_158 => ?_) (fun h_158 => ?_)
            · refine ev_aload_n dX8_arrive_165 rfl ?_
              refine ev_getR (r := 93) dX8_arrive_166 fl_X8_49 rfl rfl rfl ?_
              refine ev_iload_n dX8_arrive_169 rfl ?_
              refine ev_iaload dX8_arrive_170 rfl (by first | omega | (simp [wr_at]; omega) | (simp [wr_at, *]; omega)) (by first | omega | (simp [wr_at]; omega) | (simp [wr_at, *]; omega)) (by decide) ?_
              try rw [wr_nec _ (by decide), wr_nec _ (by decide), e93]
              refine ev_iadd dX8_arrive_171 ?_
              refine ev_putI (kz := 30) dX8_arrive_172 fp_X8_196 rfl rfl rfl (by first | exact ⟨by omega, by omega⟩ | (rw [wr_nec _ (by decide), wr_nec _ (by decide), e93]; exact ⟨by omega, by omega⟩)) ?_
              refine ev_w (fun hR => ?_)
              refine ev_iinc dX8_arrive_175 rfl rfl (by decide) rfl ?_
              refine ev_goto (tgt := 90) dX8_arrive_178 (by decide) ?_
              first
                | (have hpf : dlvP σ P nl b l = false := by
                     rw [hpe]
                     refine decide_eq_false (fun y => ?_)
                     first
                       | exact h_105 (by rw [e43]; exact y.1)
                       | exact h_120 (by rw [e91, e98]; exact y.2)
                   have q := ih (by omega) ν ⟨hS, by rw [arF_n hpf]; exact hD⟩
                   exact q)
                | (have hpt : dlvP σ P nl b l = true := by
                     rw [hpe]
                     exact decide_eq_true ⟨by rw [← e43]; exact h_105, by rw [← e91, ← e98]; exact h_120⟩
                   have hd9 : (wearM (arF (wr σ 40 b (-1)) (dlvP σ P nl b) (gain σ P) dv l) r (wearBy σ P nl b) w r).1 37 5 = (dv ||| bs (dlvP σ P nl b) l : Nat) := by
                     rw [ht9, if_neg (by omega), if_neg (by omega), arF_5]
                   have hT1 : (wearM (arF (wr σ 40 b (-1)) (dlvP σ P nl b) (gain σ P) dv l) r (wearBy σ P nl b) w r).1 37 1 = σ.1 37 1 + sumI (fun i => if dlvP σ P nl b i then gain σ P i else 0) l := by
                     rw [ht9, if_neg (by omega), if_neg (by omega), arF_1, wr_nec _ (by decide)]
                   have hD2 := MDy.dlv hD l _ hd9 (gain σ P l)
                   rw [hT1, ← wear_dlv] at hD2
                   have hy := arF_y (σ := wr σ 40 (b : Int) (-1)) (g := gain σ P) (dv := dv) hpt
                   rw [show (wr σ 40 (b : Int) (-1)).1 37 1 = σ.1 37 1 from wr_nec σ (by decide)] at hy
                   rw [hy] at hD2
                   have hS2 : MSame μ (wr (wr (wr ν 103 (l : Int) (-1)) 104 (l : Int) 1) 79 30 (ν.1 79 30 + gain σ P l)) := ((hS.wrc _ _ (by decide) (by decide)).wrc _ _ (by decide) (by decide)).wf _ (by decide)
                   have q := ih (by omega) _ ⟨hS2, hD2⟩
                   have hgz : gain σ P l = σ.1 (P + 15) l := by
                     unfold gain
                     rw [if_pos (by first | exact Or.inl (by rw [← e94]; assumption) | exact Or.inr (by rw [← emi]; assumption) | exact Or.inr (by omega) | exact Or.inl (by omega))]
                   rw [hgz, eha] at q
                   exact q)
                | (have hpt : dlvP σ P nl b l = true := by
                     rw [hpe]
                     exact decide_eq_true ⟨by rw [← e43]; exact h_105, by rw [← e91, ← e98]; exact h_120⟩
                   have hd9 : (wearM (arF (wr σ 40 b (-1)) (dlvP σ P nl b) (gain σ P) dv l) r (wearBy σ P nl b) w r).1 37 5 = (dv ||| bs (dlvP σ P nl b) l : Nat) := by
                     rw [ht9, if_neg (by omega), if_neg (by omega), arF_5]
                   have hT1 : (wearM (arF (wr σ 40 b (-1)) (dlvP σ P nl b) (gain σ P) dv l) r (wearBy σ P nl b) w r).1 37 1 = σ.1 37 1 + sumI (fun i => if dlvP σ P nl b i then gain σ P i else 0) l := by
                     rw [ht9, if_neg (by omega), if_neg (by omega), arF_1, wr_nec _ (by decide)]
                   have hD2 := MDy.dlv hD l _ hd9 (gain σ P l)
                   rw [hT1, ← wear_dlv] at hD2
                   have hy := arF_y (σ := wr σ 40 (b : Int) (-1)) (g := gain σ P) (dv := dv) hpt
                   rw [show (wr σ 40 (b : Int) (-1)).1 37 1 = σ.1 37 1 from wr_nec σ (by decide)] at hy
                   rw [hy] at hD2
                   have hS2 : MSame μ (wr (wr (wr ν 103 (l : Int) (-1)) 104 (l : Int) 1) 79 30 (ν.1 79 30 + gain σ P l)) := ((hS.wrc _ _ (by decide) (by decide)).wrc _ _ (by decide) (by decide)).wf _ (by decide)
                   have q := ih (by omega) _ ⟨hS2, hD2⟩
                   have hgz : gain σ P l = 0 := by
                     unfold gain
                     rw [if_neg (by omega)]
                   rw [hgz, eha] at q
                   exact q)
            · refine ev_iconst dX8_arrive_161 ?_
              refine ev_goto (tgt := 171) dX8_arrive_162 (by decide) ?_
              try rw [wr_nec _ (by decide), wr_nec _ (by decide), e93]
              refine ev_iadd dX8_arrive_171 ?_
              refine ev_putI (kz := 30) dX8_arrive_172 fp_X8_196 rfl rfl rfl (by first | exact ⟨by omega, by omega⟩ | (rw [wr_nec _ (by decide), wr_nec _ (by decide), e93]; exact ⟨by omega, by omega⟩)) ?_
              refine ev_w (fun hR => ?_)
              refine ev_iinc dX8_arrive_175 rfl rfl (by decide) rfl ?_
              refine ev_goto (tgt := 90) dX8_arrive_178 (by decide) ?_
              first
                | (have hpf : dlvP σ P nl b l = false := by
                     rw [hpe]
                     refine decide_eq_false (fun y => ?_)
                     first
                       | exact h_105 (by rw [e43]; exact y.1)
                       | exact h_120 (by rw [e91, e98]; exact y.2)
                   have q := ih (by omega) ν ⟨hS, by rw [arF_n hpf]; exact hD⟩
                   exact q)
                | (have hpt : dlvP σ P nl b l = true := by
                     rw [hpe]
                     exact decide_eq_true ⟨by rw [← e43]; exact h_105, by rw [← e91, ← e98]; exact h_120⟩
                   have hd9 : (wearM (arF (wr σ 40 b (-1)) (dlvP σ P nl b) (gain σ P) dv l) r (wearBy σ P nl b) w r).1 37 5 = (dv ||| bs (dlvP σ P nl b) l : Nat) := by
                     rw [ht9, if_neg (by omega), if_neg (by omega), arF_5]
                   have hT1 : (wearM (arF (wr σ 40 b (-1)) (dlvP σ P nl b) (gain σ P) dv l) r (wearBy σ P nl b) w r).1 37 1 = σ.1 37 1 + sumI (fun i => if dlvP σ P nl b i then gain σ P i else 0) l := by
                     rw [ht9, if_neg (by omega), if_neg (by omega), arF_1, wr_nec _ (by decide)]
                   have hD2 := MDy.dlv hD l _ hd9 (gain σ P l)
                   rw [hT1, ← wear_dlv] at hD2
                   have hy := arF_y (σ := wr σ 40 (b : Int) (-1)) (g := gain σ P) (dv := dv) hpt
                   rw [show (wr σ 40 (b : Int) (-1)).1 37 1 = σ.1 37 1 from wr_nec σ (by decide)] at hy
                   rw [hy] at hD2
                   have hS2 : MSame μ (wr (wr (wr ν 103 (l : Int) (-1)) 104 (l : Int) 1) 79 30 (ν.1 79 30 + gain σ P l)) := ((hS.wrc _ _ (by decide) (by decide)).wrc _ _ (by decide) (by decide)).wf _ (by decide)
                   have q := ih (by omega) _ ⟨hS2, hD2⟩
                   have hgz : gain σ P l = σ.1 (P + 15) l := by
                     unfold gain
                     rw [if_pos (by first | exact Or.inl (by rw [← e94]; assumption) | exact Or.inr (by rw [← emi]; assumption) | exact Or.inr (by omega) | exact Or.inl (by omega))]
                   rw [hgz, eha] at q
                   exact q)
                | (have hpt : dlvP σ P nl b l = true := by
                     rw [hpe]
                     exact decide_eq_true ⟨by rw [← e43]; exact h_105, by rw [← e91, ← e98]; exact h_120⟩
                   have hd9 : (wearM (arF (wr σ 40 b (-1)) (dlvP σ P nl b) (gain σ P) dv l) r (wearBy σ P nl b) w r).1 37 5 = (dv ||| bs (dlvP σ P nl b) l : Nat) := by
                     rw [ht9, if_neg (by omega), if_neg (by omega), arF_5]
                   have hT1 : (wearM (arF (wr σ 40 b (-1)) (dlvP σ P nl b) (gain σ P) dv l) r (wearBy σ P nl b) w r).1 37 1 = σ.1 37 1 + sumI (fun i => if dlvP σ P nl b i then gain σ P i else 0) l := by
                     rw [ht9, if_neg (by omega), if_neg (by omega), arF_1, wr_nec _ (by decide)]
                   have hD2 := MDy.dlv hD l _ hd9 (gain σ P l)
                   rw [hT1, ← wear_dlv] at hD2
                   have hy := arF_y (σ := wr σ 40 (b : Int) (-1)) (g := gain σ P) (dv := dv) hpt
                   rw [show (wr σ 40 (b : Int) (-1)).1 37 1 = σ.1 37 1 from wr_nec σ (by decide)] at hy
                   rw [hy] at hD2
                   have hS2 : MSame μ (wr (wr (wr ν 103 (l : Int) (-1)) 104 (l : Int) 1) 79 30 (ν.1 79 30 + gain σ P l)) := ((hS.wrc _ _ (by decide) (by decide)).wrc _ _ (by decide) (by decide)).wf _ (by decide)
                   have q := ih (by omega) _ ⟨hS2, hD2⟩
                   have hgz : gain σ P l = 0 := by
                     unfold gain
                     rw [if_neg (by omega)]
                   rw [hgz, eha] at q
                   exact q)
  refine ev_aload_n dX8_arrive_0 rfl ?_
  refine ev_getR (r := 99) dX8_arrive_1 fl_X8_68 rfl rfl rfl ?_
  refine ev_iload_n dX8_arrive_4 rfl ?_
  refine ev_iaload dX8_arrive_5 rfl (by first | omega | (simp [wr_at]; omega) | (simp [wr_at, *]; omega)) (by first | omega | (simp [wr_at]; omega) | (simp [wr_at, *]; omega)) (by decide) ?_
  rw [hdb.1, hbr]
  refine ev_istore_n dX8_arrive_6 rfl (by decide) rfl ?_
  refine ev_aload_n dX8_arrive_7 rfl ?_
  refine ev_getR (r := 95) dX8_arrive_8 fl_X8_55 rfl rfl rfl ?_
  refine ev_iload_n dX8_arrive_11 rfl ?_
  refine ev_dup2 dX8_arrive_12 rfl rfl ?_
  refine ev_iaload dX8_arrive_13 rfl (by first | omega | (simp [wr_at]; omega) | (simp [wr_at, *]; omega)) (by first | omega | (simp [wr_at]; omega) | (simp [wr_at, *]; omega)) (by decide) ?_
  rw [(dr r hr).1]
  refine ev_aload_n dX8_arrive_14 rfl ?_
  refine ev_iload_n dX8_arrive_15 rfl ?_
  refine ev_aload_n dX8_arrive_16 rfl ?_
  refine ev_iload_n dX8_arrive_17 rfl ?_
  refine ev_callVI dX8_arrive_18 kv_X8_333 (m_carriedBy μ nl cl hnl4 b ⟨by omega, by omega⟩) rfl rfl (ci := 8) rfl rfl ⟨by decide, by decide⟩ (Nat.le_of_ble_eq_true rfl) ?_
  refine ev_w (fun hR => ?_)
  rw [car_r hMD (b : Int)]
  refine ev_callVI dX8_arrive_21 kv_X8_343 (r_poundsOf μ σ P n nr nb nl _ _ f t hrp b (carS σ nl (b : Int)) hb (by omega)) rfl rfl (ci := 8) rfl rfl ⟨by decide, by decide⟩ (Nat.le_of_ble_eq_true rfl) ?_
  refine ev_w (fun hR => ?_)
  refine ev_bipush dX8_arrive_24 (by decide) ?_
  refine ev_idiv dX8_arrive_26 (by have := lbs_P hPO (carS σ nl (b : Int)); have := (hbo b hb).2.1; exact ⟨by omega, by omega⟩) (by decide) (by omega) (by omega) ?_
  refine ev_iconst dX8_arrive_27 ?_
  refine ev_iadd dX8_arrive_28 ?_
  rw [show (σ.1 (P + 10) b + lbs σ (P + 14) nl (carS σ nl (b : Int))).tdiv 10 + 1 = wearBy σ P nl b from rfl]
  refine ev_iadd dX8_arrive_29 ?_
  refine ev_iastore dX8_arrive_30 rfl (by first | omega | (simp [wr_at]; omega) | (simp [wr_at, *]; omega)) (by first | omega | (simp [wr_at]; omega) | (simp [wr_at, *]; omega)) (by decide) (by first | exact hR.1 _ _ | exact hR0.1 _ _ | assumption | exact ⟨by omega, by omega⟩ | exact ⟨by simp [wr_at]; omega, by simp [wr_at]; omega⟩ | exact b2_R _ | exact bC_R _ | exact band_R _ _ | exact bor_R _ _ | exact bshl_R _ _ | exact bshr_R _ _ | exact bxor_R _ _ | exact bs_R (by omega) | decide) ?_
  refine ev_w (fun hR => ?_)
  refine ev_aload_n dX8_arrive_31 rfl ?_
  refine ev_getR (r := 97) dX8_arrive_32 fl_X8_62 rfl rfl rfl ?_
  refine ev_iload_n dX8_arrive_35 rfl ?_
  refine ev_aload_n dX8_arrive_36 rfl ?_
  refine ev_getR (r := 97) dX8_arrive_37 fl_X8_62 rfl rfl rfl ?_
  refine ev_iload_n dX8_arrive_40 rfl ?_
  refine ev_zaload dX8_arrive_41 rfl (by first | omega | (simp [wr_at]; omega) | (simp [wr_at, *]; omega)) (by first | omega | (simp [wr_at]; omega) | (simp [wr_at, *]; omega)) (by decide) ?_
  rw [wr_nec _ (by decide), hcut]
  refine ev_if_ne (tgt := 56) dX8_arrive_42 (by decide) (by first | exact hR.1 _ _ | exact hR0.1 _ _ | assumption | exact ⟨by omega, by omega⟩ | exact ⟨by simp [wr_at]; omega, by simp [wr_at]; omega⟩ | exact b2_R _ | exact bC_R _ | exact band_R _ _ | exact bor_R _ _ | exact bshl_R _ _ | exact bshr_R _ _ | exact bxor_R _ _ | exact bs_R (by omega) | decide) (fun h_42 => ?_) (fun h_42 => ?_)
  · refine ev_iconst dX8_arrive_56 ?_
    refine ev_goto (tgt := 61) dX8_arrive_57 (by decide) ?_
    refine ev_zastore dX8_arrive_61 rfl (by first | omega | (simp [wr_at]; omega) | (simp [wr_at, *]; omega)) (by first | omega | (simp [wr_at]; omega) | (simp [wr_at, *]; omega)) (by decide) (by first | exact Or.inl rfl | exact Or.inr rfl | omega) ?_
    refine ev_w (fun hR => ?_)
    refine ev_aload_n dX8_arrive_62 rfl ?_
    refine ev_getR (r := 98) dX8_arrive_63 fl_X8_65 rfl rfl rfl ?_
    refine ev_iload_n dX8_arrive_66 rfl ?_
    refine ev_aload_n dX8_arrive_67 rfl ?_
    refine ev_getR (r := 100) dX8_arrive_68 fl_X8_71 rfl rfl rfl ?_
    refine ev_iload_n dX8_arrive_71 rfl ?_
    refine ev_iaload dX8_arrive_72 rfl (by first | omega | (simp [wr_at]; omega) | (simp [wr_at, *]; omega)) (by first | omega | (simp [wr_at]; omega) | (simp [wr_at, *]; omega)) (by decide) ?_
    rw [wr_nec _ (by decide), wr_nec _ (by decide), (hdb.2.2.2 hne).2]
    refine ev_iastore dX8_arrive_73 rfl (by first | omega | (simp [wr_at]; omega) | (simp [wr_at, *]; omega)) (by first | omega | (simp [wr_at]; omega) | (simp [wr_at, *]; omega)) (by decide) (by first | exact hR.1 _ _ | exact hR0.1 _ _ | assumption | exact ⟨by omega, by omega⟩ | exact ⟨by simp [wr_at]; omega, by simp [wr_at]; omega⟩ | exact b2_R _ | exact bC_R _ | exact band_R _ _ | exact bor_R _ _ | exact bshl_R _ _ | exact bshr_R _ _ | exact bxor_R _ _ | exact bs_R (by omega) | decide) ?_
    refine ev_w (fun hR => ?_)
    refine ev_aload_n dX8_arrive_74 rfl ?_
    refine ev_getR (r := 99) dX8_arrive_75 fl_X8_68 rfl rfl rfl ?_
    refine ev_iload_n dX8_arrive_78 rfl ?_
    refine ev_iconst dX8_arrive_79 ?_
    refine ev_iastore dX8_arrive_80 rfl (by first | omega | (simp [wr_at]; omega) | (simp [wr_at, *]; omega)) (by first | omega | (simp [wr_at]; omega) | (simp [wr_at, *]; omega)) (by decide) (by first | exact hR.1 _ _ | exact hR0.1 _ _ | assumption | exact ⟨by omega, by omega⟩ | exact ⟨by simp [wr_at]; omega, by simp [wr_at]; omega⟩ | exact b2_R _ | exact bC_R _ | exact band_R _ _ | exact bor_R _ _ | exact bshl_R _ _ | exact bshr_R _ _ | exact bxor_R _ _ | exact bs_R (by omega) | decide) ?_
    refine ev_w (fun hR => ?_)
    refine ev_aload_n dX8_arrive_81 rfl ?_
    refine ev_getR (r := 100) dX8_arrive_82 fl_X8_71 rfl rfl rfl ?_
    refine ev_iload_n dX8_arrive_85 rfl ?_
    refine ev_iconst dX8_arrive_86 ?_
    refine ev_iastore dX8_arrive_87 rfl (by first | omega | (simp [wr_at]; omega) | (simp [wr_at, *]; omega)) (by first | omega | (simp [wr_at]; omega) | (simp [wr_at, *]; omega)) (by decide) (by first | exact hR.1 _ _ | exact hR0.1 _ _ | assumption | exact ⟨by omega, by omega⟩ | exact ⟨by simp [wr_at]; omega, by simp [wr_at]; omega⟩ | exact b2_R _ | exact bC_R _ | exact band_R _ _ | exact bor_R _ _ | exact bshl_R _ _ | exact bshr_R _ _ | exact bxor_R _ _ | exact bs_R (by omega) | decide) ?_
    refine ev_w (fun hR => ?_)
    refine ev_iconst dX8_arrive_88 ?_
    refine ev_istore_n dX8_arrive_89 rfl (by decide) rfl ?_
    first
      | (have hD1 := MDy.wearS hMD w r hw (wearBy σ P nl b) 1 (by rw [b2_t (Or.inl (b2_ne h_42))])
         have e39 : (wearM σ r (wearBy σ P nl b) w r).1 39 (b : Int) = σ.1 39 b := by rw [wearM_at, if_neg (by omega), if_neg (by omega)]
         have hD2 := MDy.arr hD1 b
         rw [e39, wear_40] at hD2
         refine loop 0 (by omega) _ ⟨(((((MSame.rf.wrc _ _ (by decide) (by decide)).wrc _ _ (by decide) (by decide)).wrc _ _ (by decide) (by decide)).wrc _ _ (by decide) (by decide)).wrc _ _ (by decide) (by decide)), ?_⟩
         rw [arF_0 (by rw [wr_nec _ (by decide)]; exact hdv)]
         exact hD2)
      | (have hD1 := MDy.wearS hMD w r hw (wearBy σ P nl b) 1 (by rw [b2_t (Or.inr (by omega))])
         have e39 : (wearM σ r (wearBy σ P nl b) w r).1 39 (b : Int) = σ.1 39 b := by rw [wearM_at, if_neg (by omega), if_neg (by omega)]
         have hD2 := MDy.arr hD1 b
         rw [e39, wear_40] at hD2
         refine loop 0 (by omega) _ ⟨(((((MSame.rf.wrc _ _ (by decide) (by decide)).wrc _ _ (by decide) (by decide)).wrc _ _ (by decide) (by decide)).wrc _ _ (by decide) (by decide)).wrc _ _ (by decide) (by decide)), ?_⟩
         rw [arF_0 (by rw [wr_nec _ (by decide)]; exact hdv)]
         exact hD2)
      | (have hD1 := MDy.wearS hMD w r hw (wearBy σ P nl b) 0 (by rw [b2_f (fun y => by rcases y with y | y; exact b2_eq (by omega : b2 (w.testBit r = false) = 0) y; exact y (by omega))])
         have e39 : (wearM σ r (wearBy σ P nl b) w r).1 39 (b : Int) = σ.1 39 b := by rw [wearM_at, if_neg (by omega), if_neg (by omega)]
         have hD2 := MDy.arr hD1 b
         rw [e39, wear_40] at hD2
         refine loop 0 (by omega) _ ⟨(((((MSame.rf.wrc _ _ (by decide) (by decide)).wrc _ _ (by decide) (by decide)).wrc _ _ (by decide) (by decide)).wrc _ _ (by decide) (by decide)).wrc _ _ (by decide) (by decide)), ?_⟩
         rw [arF_0 (by rw [wr_nec _ (by decide)]; exact hdv)]
         exact hD2)
  · refine ev_aload_n dX8_arrive_45 rfl ?_
    refine ev_getR (r := 95) dX8_arrive_46 fl_X8_55 rfl rfl rfl ?_
    refine ev_iload_n dX8_arrive_49 rfl ?_
    refine ev_iaload dX8_arrive_50 rfl (by first | omega | (simp [wr_at]; omega) | (simp [wr_at, *]; omega)) (by first | omega | (simp [wr_at]; omega) | (simp [wr_at, *]; omega)) (by decide) ?_
    rw [wr_eq]
    refine ev_bipush dX8_arrive_51 (by decide) ?_
    refine ev_icmp_lt (tgt := 60) dX8_arrive_53 (by decide) (by first | exact hR.1 _ _ | exact hR0.1 _ _ | assumption | exact ⟨by omega, by omega⟩ | exact ⟨by simp [wr_at]; omega, by simp [wr_at]; omega⟩ | exact b2_R _ | exact bC_R _ | exact band_R _ _ | exact bor_R _ _ | exact bshl_R _ _ | exact bshr_R _ _ | exact bxor_R _ _ | exact bs_R (by omega) | decide) (by first | exact hR.1 _ _ | exact hR0.1 _ _ | assumption | exact ⟨by omega, by omega⟩ | exact ⟨by simp [wr_at]; omega, by simp [wr_at]; omega⟩ | exact b2_R _ | exact bC_R _ | exact band_R _ _ | exact bor_R _ _ | exact bshl_R _ _ | exact bshr_R _ _ | exact bxor_R _ _ | exact bs_R (by omega) | decide) (fun h_53 => ?_) (fun h_53 => ?_)
    · refine ev_iconst dX8_arrive_60 ?_
      refine ev_zastore dX8_arrive_61 rfl (by first | omega | (simp [wr_at]; omega) | (simp [wr_at, *]; omega)) (by first | omega | (simp [wr_at]; omega) | (simp [wr_at, *]; omega)) (by decide) (by first | exact Or.inl rfl | exact Or.inr rfl | omega) ?_
      refine ev_w (fun hR => ?_)
      refine ev_aload_n dX8_arrive_62 rfl ?_
      refine ev_getR (r := 98) dX8_arrive_63 fl_X8_65 rfl rfl rfl ?_
      refine ev_iload_n dX8_arrive_66 rfl ?_
      refine ev_aload_n dX8_arrive_67 rfl ?_
      refine ev_getR (r := 100) dX8_arrive_68 fl_X8_71 rfl rfl rfl ?_
      refine ev_iload_n dX8_arrive_71 rfl ?_
      refine ev_iaload dX8_arrive_72 rfl (by first | omega | (simp [wr_at]; omega) | (simp [wr_at, *]; omega)) (by first | omega | (simp [wr_at]; omega) | (simp [wr_at, *]; omega)) (by decide) ?_
      rw [wr_nec _ (by decide), wr_nec _ (by decide), (hdb.2.2.2 hne).2]
      refine ev_iastore dX8_arrive_73 rfl (by first | omega | (simp [wr_at]; omega) | (simp [wr_at, *]; omega)) (by first | omega | (simp [wr_at]; omega) | (simp [wr_at, *]; omega)) (by decide) (by first | exact hR.1 _ _ | exact hR0.1 _ _ | assumption | exact ⟨by omega, by omega⟩ | exact ⟨by simp [wr_at]; omega, by simp [wr_at]; omega⟩ | exact b2_R _ | exact bC_R _ | exact band_R _ _ | exact bor_R _ _ | exact bshl_R _ _ | exact bshr_R _ _ | exact bxor_R _ _ | exact bs_R (by omega) | decide) ?_
      refine ev_w (fun hR => ?_)
      refine ev_aload_n dX8_arrive_74 rfl ?_
      refine ev_getR (r := 99) dX8_arrive_75 fl_X8_68 rfl rfl rfl ?_
      refine ev_iload_n dX8_arrive_78 rfl ?_
      refine ev_iconst dX8_arrive_79 ?_
      refine ev_iastore dX8_arrive_80 rfl (by first | omega | (simp [wr_at]; omega) | (simp [wr_at, *]; omega)) (by first | omega | (simp [wr_at]; omega) | (simp [wr_at, *]; omega)) (by decide) (by first | exact hR.1 _ _ | exact hR0.1 _ _ | assumption | exact ⟨by omega, by omega⟩ | exact ⟨by simp [wr_at]; omega, by simp [wr_at]; omega⟩ | exact b2_R _ | exact bC_R _ | exact band_R _ _ | exact bor_R _ _ | exact bshl_R _ _ | exact bshr_R _ _ | exact bxor_R _ _ | exact bs_R (by omega) | decide) ?_
      refine ev_w (fun hR => ?_)
      refine ev_aload_n dX8_arrive_81 rfl ?_
      refine ev_getR (r := 100) dX8_arrive_82 fl_X8_71 rfl rfl rfl ?_
      refine ev_iload_n dX8_arrive_85 rfl ?_
      refine ev_iconst dX8_arrive_86 ?_
      refine ev_iastore dX8_arrive_87 rfl (by first | omega | (simp [wr_at]; omega) | (simp [wr_at, *]; omega)) (by first | omega | (simp [wr_at]; omega) | (simp [wr_at, *]; omega)) (by decide) (by first | exact hR.1 _ _ | exact hR0.1 _ _ | assumption | exact ⟨by omega, by omega⟩ | exact ⟨by simp [wr_at]; omega, by simp [wr_at]; omega⟩ | exact b2_R _ | exact bC_R _ | exact band_R _ _ | exact bor_R _ _ | exact bshl_R _ _ | exact bshr_R _ _ | exact bxor_R _ _ | exact bs_R (by omega) | decide) ?_
      refine ev_w (fun hR => ?_)
      refine ev_iconst dX8_arrive_88 ?_
      refine ev_istore_n dX8_arrive_89 rfl (by decide) rfl ?_
      first
        | (have hD1 := MDy.wearS hMD w r hw (wearBy σ P nl b) 1 (by rw [b2_t (Or.inl (b2_ne h_42))])
           have e39 : (wearM σ r (wearBy σ P nl b) w r).1 39 (b : Int) = σ.1 39 b := by rw [wearM_at, if_neg (by omega), if_neg (by omega)]
           have hD2 := MDy.arr hD1 b
           rw [e39, wear_40] at hD2
           refine loop 0 (by omega) _ ⟨(((((MSame.rf.wrc _ _ (by decide) (by decide)).wrc _ _ (by decide) (by decide)).wrc _ _ (by decide) (by decide)).wrc _ _ (by decide) (by decide)).wrc _ _ (by decide) (by decide)), ?_⟩
           rw [arF_0 (by rw [wr_nec _ (by decide)]; exact hdv)]
           exact hD2)
        | (have hD1 := MDy.wearS hMD w r hw (wearBy σ P nl b) 1 (by rw [b2_t (Or.inr (by omega))])
           have e39 : (wearM σ r (wearBy σ P nl b) w r).1 39 (b : Int) = σ.1 39 b := by rw [wearM_at, if_neg (by omega), if_neg (by omega)]
           have hD2 := MDy.arr hD1 b
           rw [e39, wear_40] at hD2
           refine loop 0 (by omega) _ ⟨(((((MSame.rf.wrc _ _ (by decide) (by decide)).wrc _ _ (by decide) (by decide)).wrc _ _ (by decide) (by decide)).wrc _ _ (by decide) (by decide)).wrc _ _ (by decide) (by decide)), ?_⟩
           rw [arF_0 (by rw [wr_nec _ (by decide)]; exact hdv)]
           exact hD2)
        | (have hD1 := MDy.wearS hMD w r hw (wearBy σ P nl b) 0 (by rw [b2_f (fun y => by rcases y with y | y; exact b2_eq (by omega : b2 (w.testBit r = false) = 0) y; exact y (by omega))])
           have e39 : (wearM σ r (wearBy σ P nl b) w r).1 39 (b : Int) = σ.1 39 b := by rw [wearM_at, if_neg (by omega), if_neg (by omega)]
           have hD2 := MDy.arr hD1 b
           rw [e39, wear_40] at hD2
           refine loop 0 (by omega) _ ⟨(((((MSame.rf.wrc _ _ (by decide) (by decide)).wrc _ _ (by decide) (by decide)).wrc _ _ (by decide) (by decide)).wrc _ _ (by decide) (by decide)).wrc _ _ (by decide) (by decide)), ?_⟩
           rw [arF_0 (by rw [wr_nec _ (by decide)]; exact hdv)]
           exact hD2)
    · refine ev_iconst dX8_arrive_56 ?_
      refine ev_goto (tgt := 61) dX8_arrive_57 (by decide) ?_
      refine ev_zastore dX8_arrive_61 rfl (by first | omega | (simp [wr_at]; omega) | (simp [wr_at, *]; omega)) (by first | omega | (simp [wr_at]; omega) | (simp [wr_at, *]; omega)) (by decide) (by first | exact Or.inl rfl | exact Or.inr rfl | omega) ?_
      refine ev_w (fun hR => ?_)
      refine ev_aload_n dX8_arrive_62 rfl ?_
      refine ev_getR (r := 98) dX8_arrive_63 fl_X8_65 rfl rfl rfl ?_
      refine ev_iload_n dX8_arrive_66 rfl ?_
      refine ev_aload_n dX8_arrive_67 rfl ?_
      refine ev_getR (r := 100) dX8_arrive_68 fl_X8_71 rfl rfl rfl ?_
      refine ev_iload_n dX8_arrive_71 rfl ?_
      refine ev_iaload dX8_arrive_72 rfl (by first | omega | (simp [wr_at]; omega) | (simp [wr_at, *]; omega)) (by first | omega | (simp [wr_at]; omega) | (simp [wr_at, *]; omega)) (by decide) ?_
      rw [wr_nec _ (by decide), wr_nec _ (by decide), (hdb.2.2.2 hne).2]
      refine ev_iastore dX8_arrive_73 rfl (by first | omega | (simp [wr_at]; omega) | (simp [wr_at, *]; omega)) (by first | omega | (simp [wr_at]; omega) | (simp [wr_at, *]; omega)) (by decide) (by first | exact hR.1 _ _ | exact hR0.1 _ _ | assumption | exact ⟨by omega, by omega⟩ | exact ⟨by simp [wr_at]; omega, by simp [wr_at]; omega⟩ | exact b2_R _ | exact bC_R _ | exact band_R _ _ | exact bor_R _ _ | exact bshl_R _ _ | exact bshr_R _ _ | exact bxor_R _ _ | exact bs_R (by omega) | decide) ?_
      refine ev_w (fun hR => ?_)
      refine ev_aload_n dX8_arrive_74 rfl ?_
      refine ev_getR (r := 99) dX8_arrive_75 fl_X8_68 rfl rfl rfl ?_
      refine ev_iload_n dX8_arrive_78 rfl ?_
      refine ev_iconst dX8_arrive_79 ?_
      refine ev_iastore dX8_arrive_80 rfl (by first | omega | (simp [wr_at]; omega) | (simp [wr_at, *]; omega)) (by first | omega | (simp [wr_at]; omega) | (simp [wr_at, *]; omega)) (by decide) (by first | exact hR.1 _ _ | exact hR0.1 _ _ | assumption | exact ⟨by omega, by omega⟩ | exact ⟨by simp [wr_at]; omega, by simp [wr_at]; omega⟩ | exact b2_R _ | exact bC_R _ | exact band_R _ _ | exact bor_R _ _ | exact bshl_R _ _ | exact bshr_R _ _ | exact bxor_R _ _ | exact bs_R (by omega) | decide) ?_
      refine ev_w (fun hR => ?_)
      refine ev_aload_n dX8_arrive_81 rfl ?_
      refine ev_getR (r := 100) dX8_arrive_82 fl_X8_71 rfl rfl rfl ?_
      refine ev_iload_n dX8_arrive_85 rfl ?_
      refine ev_iconst dX8_arrive_86 ?_
      refine ev_iastore dX8_arrive_87 rfl (by first | omega | (simp [wr_at]; omega) | (simp [wr_at, *]; omega)) (by first | omega | (simp [wr_at]; omega) | (simp [wr_at, *]; omega)) (by decide) (by first | exact hR.1 _ _ | exact hR0.1 _ _ | assumption | exact ⟨by omega, by omega⟩ | exact ⟨by simp [wr_at]; omega, by simp [wr_at]; omega⟩ | exact b2_R _ | exact bC_R _ | exact band_R _ _ | exact bor_R _ _ | exact bshl_R _ _ | exact bshr_R _ _ | exact bxor_R _ _ | exact bs_R (by omega) | decide) ?_
      refine ev_w (fun hR => ?_)
      refine ev_iconst dX8_arrive_88 ?_
      refine ev_istore_n dX8_arrive_89 rfl (by decide) rfl ?_
      first
        | (have hD1 := MDy.wearS hMD w r hw (wearBy σ P nl b) 1 (by rw [b2_t (Or.inl (b2_ne h_42))])
           have e39 : (wearM σ r (wearBy σ P nl b) w r).1 39 (b : Int) = σ.1 39 b := by rw [wearM_at, if_neg (by omega), if_neg (by omega)]
           have hD2 := MDy.arr hD1 b
           rw [e39, wear_40] at hD2
           refine loop 0 (by omega) _ ⟨(((((MSame.rf.wrc _ _ (by decide) (by decide)).wrc _ _ (by decide) (by decide)).wrc _ _ (by decide) (by decide)).wrc _ _ (by decide) (by decide)).wrc _ _ (by decide) (by decide)), ?_⟩
           rw [arF_0 (by rw [wr_nec _ (by decide)]; exact hdv)]
           exact hD2)
        | (have hD1 := MDy.wearS hMD w r hw (wearBy σ P nl b) 1 (by rw [b2_t (Or.inr (by omega))])
           have e39 : (wearM σ r (wearBy σ P nl b) w r).1 39 (b : Int) = σ.1 39 b := by rw [wearM_at, if_neg (by omega), if_neg (by omega)]
           have hD2 := MDy.arr hD1 b
           rw [e39, wear_40] at hD2
           refine loop 0 (by omega) _ ⟨(((((MSame.rf.wrc _ _ (by decide) (by decide)).wrc _ _ (by decide) (by decide)).wrc _ _ (by decide) (by decide)).wrc _ _ (by decide) (by decide)).wrc _ _ (by decide) (by decide)), ?_⟩
           rw [arF_0 (by rw [wr_nec _ (by decide)]; exact hdv)]
           exact hD2)
        | (have hD1 := MDy.wearS hMD w r hw (wearBy σ P nl b) 0 (by rw [b2_f (fun y => by rcases y with y | y; exact b2_eq (by omega : b2 (w.testBit r = false) = 0) y; exact y (by omega))])
           have e39 : (wearM σ r (wearBy σ P nl b) w r).1 39 (b : Int) = σ.1 39 b := by rw [wearM_at, if_neg (by omega), if_neg (by omega)]
           have hD2 := MDy.arr hD1 b
           rw [e39, wear_40] at hD2
           refine loop 0 (by omega) _ ⟨(((((MSame.rf.wrc _ _ (by decide) (by decide)).wrc _ _ (by decide) (by decide)).wrc _ _ (by decide) (by decide)).wrc _ _ (by decide) (by decide)).wrc _ _ (by decide) (by decide)), ?_⟩
           rw [arF_0 (by rw [wr_nec _ (by decide)]; exact hdv)]
           exact hD2)
