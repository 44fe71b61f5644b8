/-! a plan as it is told: its counts (0 poles, 1 ropes, 2 boys, 3 loads) and its rows, numbered as in memory; a plan in memory -/
abbrev PD : Type := (Nat → Nat) × (Nat → Nat → Int)
def grp (j : Nat) : Nat := if j ≤ 3 then 0 else if j ≤ 8 then 1 else if j ≤ 11 then 2 else 3
def row (j : Nat) : Prop := 1 ≤ j ∧ j ≤ 16 ∧ j ≠ 4
/-- the plan d with one more of the group g, of the values v -/
def addD (d : PD) (g : Nat) (v : Nat → Int) : PD := (fun k => if k = g then d.1 g + 1 else d.1 k, fun j p => if grp j = g ∧ p = d.1 g then v j else d.2 j p)
theorem addD_c (d : PD) (g : Nat) (v : Nat → Int) (k : Nat) : (addD d g v).1 k = if k = g then d.1 g + 1 else d.1 k := rfl
theorem addD_r (d : PD) (g : Nat) (v : Nat → Int) (j p : Nat) : (addD d g v).2 j p = if grp j = g ∧ p = d.1 g then v j else d.2 j p := rfl
/-- the plan d, in the fields f of cell o and the rows m 1 .. m 16 -/
def PRepG (σ : Mem) (o : Nat) (f : Nat → Int) (m : Nat → Nat) (d : PD) : Prop := (∀ k, k < 4 → σ.1 o (f k) = d.1 k) ∧ ∀ j, row j → ∀ p : Nat, p < d.1 (grp j) → σ.1 (m j) p = d.2 j p
theorem grp_lt (j : Nat) : grp j < 4 := by unfold grp; repeat' (first | decide | split)
theorem PRepG.add {σ τ : Mem} {o : Nat} {f : Nat → Int} {m : Nat → Nat} {d : PD} (h : PRepG σ o f m d) (g : Nat) (v : Nat → Int) (h1 : τ.1 o (f g) = (d.1 g : Int) + 1) (h2 : ∀ k, k < 4 → k ≠ g → τ.1 o (f k) = σ.1 o (f k)) (h3 : ∀ j, row j → grp j = g → τ.1 (m j) (d.1 g) = v j) (h4 : ∀ j, row j → ∀ p : Nat, p < d.1 (grp j) → τ.1 (m j) p = σ.1 (m j) p) : PRepG τ o f m (addD d g v) := by
  refine ⟨fun k hk => ?_, fun j hj p hp => ?_⟩
  · rw [addD_c]
    by_cases e : k = g
    · subst e; rw [if_pos rfl, h1]; rfl
    · rw [if_neg e, h2 k hk e]; exact h.1 k hk
  · rw [addD_c] at hp
    rw [addD_r]
    by_cases e : grp j = g
    · rw [if_pos e] at hp
      by_cases e2 : p = d.1 g
      · subst e2
        rw [if_pos ⟨e, rfl⟩]
        exact h3 j hj e
      · have hp2 : p < d.1 (grp j) := by rw [e]; omega
        rw [if_neg (fun q => e2 q.2), h4 j hj p hp2]
        exact h.2 j hj p hp2
    · rw [if_neg e] at hp
      rw [if_neg (fun q => e q.1), h4 j hj p hp]
      exact h.2 j hj p hp
def fld4 (k : Nat) : Int := k
def PRep (σ : Mem) (P : Nat) (d : PD) : Prop := PRepG σ P fld4 (fun j => P + j) d
def RAt (σ : Mem) (P : Nat) (d : PD) : Prop := ∀ p : Nat, p < 8 → σ.1 (P + 4) p = (bs (fun r => decide (d.2 5 r = p ∨ d.2 6 r = p)) (d.1 1) : Nat)
def PDok (d : PD) : Prop := d.1 0 ≤ 8 ∧ d.1 1 ≤ 12 ∧ d.1 2 ≤ 4 ∧ d.1 3 ≤ 4 ∧
  (∀ p, p < d.1 0 → (0 ≤ d.2 1 p ∧ d.2 1 p ≤ 99) ∧ (0 ≤ d.2 2 p ∧ d.2 2 p ≤ 99) ∧ (1 ≤ d.2 3 p ∧ d.2 3 p ≤ 5)) ∧
  (∀ r, r < d.1 1 → (0 ≤ d.2 5 r ∧ d.2 5 r < d.1 0) ∧ (0 ≤ d.2 6 r ∧ d.2 6 r < d.1 0) ∧ d.2 5 r ≠ d.2 6 r ∧ (1 ≤ d.2 7 r ∧ d.2 7 r ≤ 99) ∧ (1 ≤ d.2 8 r ∧ d.2 8 r ≤ 999)) ∧
  (∀ b, b < d.1 2 → (0 ≤ d.2 9 b ∧ d.2 9 b < d.1 0) ∧ (1 ≤ d.2 10 b ∧ d.2 10 b ≤ 200) ∧ (1 ≤ d.2 11 b ∧ d.2 11 b ≤ 50)) ∧
  (∀ l, l < d.1 3 → (0 ≤ d.2 12 l ∧ d.2 12 l < d.1 0) ∧ (0 ≤ d.2 13 l ∧ d.2 13 l < d.1 0) ∧ d.2 12 l ≠ d.2 13 l ∧ (0 ≤ d.2 14 l ∧ d.2 14 l ≤ 200) ∧ (0 ≤ d.2 15 l ∧ d.2 15 l ≤ 999) ∧ (0 ≤ d.2 16 l ∧ d.2 16 l ≤ 3))
abbrev NRes : Type := (Int × Nat) ⊕ (Int × Nat × Nat)
abbrev BRes : Type := (Int × Nat) ⊕ (PD × Nat)
def v3 (j0 : Nat) (a b c : Int) (j : Nat) : Int := if j = j0 then a else if j = j0 + 1 then b else c
def v5 (j0 : Nat) (a b c e g : Int) (j : Nat) : Int := if j = j0 then a else if j = j0 + 1 then b else if j = j0 + 2 then c else if j = j0 + 3 then e else g
def othR (c : Nat → Int) (L : Nat) (n : Nat) (u : Int) (i : Nat) : NRes := match numR c L 0 ((n : Int) - 1) i with
  | .inl q => .inl q
  | .inr (x, a, e) => if x = u then .inl (4, a) else .inr (x, a, e)
def poleR (c : Nat → Int) (L : Nat) (d : PD) (i : Nat) : BRes := match numR c L 0 99 i with
  | .inl q => .inl q
  | .inr (x1, _, e1) => match numR c L 0 99 e1 with
    | .inl q => .inl q
    | .inr (x2, _, e2) => match numR c L 1 5 e2 with
      | .inl q => .inl q
      | .inr (x3, _, e3) => .inr (addD d 0 (v3 1 x1 x2 x3), e3)
def ropeR (c : Nat → Int) (L : Nat) (d : PD) (i : Nat) : BRes := match numR c L 0 ((d.1 0 : Int) - 1) i with
  | .inl q => .inl q
  | .inr (x1, _, e1) => match othR c L (d.1 0) x1 e1 with
    | .inl q => .inl q
    | .inr (x2, _, e2) => match numR c L 1 99 e2 with
      | .inl q => .inl q
      | .inr (x3, _, e3) => match numR c L 1 999 e3 with
        | .inl q => .inl q
        | .inr (x4, _, e4) => .inr (addD d 1 (v5 5 x1 x2 x3 x4 0), e4)
def boyR (c : Nat → Int) (L : Nat) (d : PD) (i : Nat) : BRes := match numR c L 0 ((d.1 0 : Int) - 1) i with
  | .inl q => .inl q
  | .inr (x1, a, e1) => if d.2 3 x1.toNat ≤ (cnt (fun b => decide (d.2 9 b = x1)) (d.1 2) : Nat) then .inl (4, a) else match numR c L 1 200 e1 with
    | .inl q => .inl q
    | .inr (x2, _, e2) => match numR c L 1 50 e2 with
      | .inl q => .inl q
      | .inr (x3, _, e3) => .inr (addD d 2 (v3 9 x1 x2 x3), e3)
def loadR (c : Nat → Int) (L : Nat) (d : PD) (i : Nat) : BRes := match numR c L 0 ((d.1 0 : Int) - 1) i with
  | .inl q => .inl q
  | .inr (x1, _, e1) => match othR c L (d.1 0) x1 e1 with
    | .inl q => .inl q
    | .inr (x2, _, e2) => match numR c L 0 200 e2 with
      | .inl q => .inl q
      | .inr (x3, _, e3) => match numR c L 0 999 e3 with
        | .inl q => .inl q
        | .inr (x4, _, e4) => match kndR c L e4 with
          | .inl q => .inl q
          | .inr (x5, _, e5) => .inr (addD d 3 (v5 12 x1 x2 x3 x4 x5), e5)
theorem othR_ok {c : Nat → Int} {L n i : Nat} {u x : Int} {a e : Nat} (h : othR c L n u i = .inr (x, a, e)) (hi : i ≤ L) : 0 ≤ x ∧ x ≤ (n : Int) - 1 ∧ i ≤ a ∧ a < e ∧ e ≤ L ∧ x ≠ u := by
  unfold othR at h
  split at h
  · cases h
  next x' a' e' hN =>
    split at h
    · cases h
    next hne =>
      cases h
      have := numR_ok hN hi
      exact ⟨this.1, this.2.1, this.2.2.1, this.2.2.2.1, this.2.2.2.2, hne⟩
theorem kndR_ok {c : Nat → Int} {L i : Nat} {x : Int} {a e : Nat} (h : kndR c L i = .inr (x, a, e)) (hi : i ≤ L) : 0 ≤ x ∧ x ≤ 3 ∧ i ≤ a ∧ a ≤ e ∧ e ≤ L := by
  unfold kndR at h
  have h1 : i ≤ sk c L i := scan_ge _ _ _
  have h2 := scan_ge (isA c) L (sk c L i)
  have h3 : sk c L i ≤ L := scan_le hi
  have h4 : scan (isA c) L (sk c L i) ≤ L := scan_le h3
  have h5 := kdK_R c (sk c L i) (scan (isA c) L (sk c L i))
  split at h
  · cases h
  next hne => cases h; exact ⟨by omega, h5.2, h1, h2, h4⟩
def SP (P c : Nat) : Prop := c = 1 ∨ (P ≤ c ∧ c ≤ P + 16)
def BdF (σ τ : Mem) (P L : Nat) (f : Int) (w : Nat) : Prop := Same (SP P) σ τ ∧ τ.1 1 1 = L ∧ τ.1 1 2 = f ∧ τ.1 1 3 = w
def BdS (σ τ : Mem) (P L : Nat) (d : PD) (e : Nat) : Prop := Same (SP P) σ τ ∧ τ.1 1 1 = L ∧ τ.1 1 3 = σ.1 1 3 ∧ τ.1 1 4 = e ∧ PRep τ P d ∧ RAt τ P d
def BodyQ (σ : Mem) (P L : Nat) (R : BRes) (z : Int) (τ : Mem) : Prop := (z = 0 ∧ ∃ f w, R = .inl (f, w) ∧ BdF σ τ P L f w) ∨ (z = 1 ∧ ∃ d e, R = .inr (d, e) ∧ BdS σ τ P L d e)
theorem BodyQ.z {σ τ : Mem} {P L : Nat} {R : BRes} {z : Int} (h : BodyQ σ P L R z τ) : z = 0 ∨ z = 1 := by
  rcases h with h | h
  · exact Or.inl h.1
  · exact Or.inr h.1
theorem BodyQ.R {σ τ : Mem} {P L : Nat} {R : BRes} {z : Int} (h : BodyQ σ P L R z τ) : inR z := by
  rcases h.z with rfl | rfl <;> decide
theorem BodyQ.bad {σ τ : Mem} {P L : Nat} {R : BRes} {z : Int} (h : BodyQ σ P L R z τ) (hz : z = 0) : ∃ f w, R = .inl (f, w) ∧ BdF σ τ P L f w := by
  rcases h with h | h
  · exact h.2
  · have := h.1; omega
theorem BodyQ.ok {σ τ : Mem} {P L : Nat} {R : BRes} {z : Int} (h : BodyQ σ P L R z τ) (hz : ¬ z = 0) : ∃ d e, R = .inr (d, e) ∧ BdS σ τ P L d e := by
  rcases h with h | h
  · exact absurd h.1 hz
  · exact h.2
/-- the reader under way, at i; cells but its own and the plan's as they were -/
def RdI (σ τ : Mem) (P L i : Nat) : Prop := Same (SP P) σ τ ∧ τ.1 1 1 = L ∧ τ.1 1 3 = σ.1 1 3 ∧ τ.1 1 4 = i
theorem RdI.num {σ τ υ : Mem} {P L i : Nat} (h : RdI σ τ P L i) {x : Int} {a e : Nat} (h2 : RdS τ υ L x a e) : RdI σ υ P L e := ⟨h.1.tr (h2.1.1.mono (fun c hc => Or.inl hc)), h2.1.2.1, h2.1.2.2.1.trans h.2.2.1, h2.1.2.2.2.1⟩
theorem RdI.wr {σ τ : Mem} {P L i : Nat} (h : RdI σ τ P L i) (hP : P = 3 ∨ P = 20) {c : Nat} (k z : Int) (h1 : P ≤ c) (h2 : c ≤ P + 16) : RdI σ (wr τ c k z) P L i := by
  refine ⟨h.1.wr (Or.inr ⟨h1, h2⟩), ?_, ?_, ?_⟩
  · rw [wr_nec _ (by omega)]; exact h.2.1
  · rw [wr_nec _ (by omega)]; exact h.2.2.1
  · rw [wr_nec _ (by omega)]; exact h.2.2.2
theorem RdI.c {σ τ : Mem} {P L i : Nat} (h : RdI σ τ P L i) (hP : P = 3 ∨ P = 20) : (fun j : Nat => τ.1 2 j) = (fun j : Nat => σ.1 2 j) := funext fun j => h.1.at (by unfold SP; omega) j
theorem RdI.bad {σ τ υ : Mem} {P L i : Nat} (h : RdI σ τ P L i) {f : Int} {w : Nat} (h2 : RdF τ υ L f w) : BdF σ υ P L f w := ⟨h.1.tr (h2.1.mono (fun c hc => Or.inl hc)), h2.2.1, h2.2.2.1, h2.2.2.2⟩
theorem k_num {σ τ : Mem} {P L i : Nat} (h : RdI σ τ P L i) (hP : P = 3 ∨ P = 20) (hL5 : L ≤ 500) (hiL : i ≤ L) (lo hi2 : Int) (hlo : inR lo) (hhi : inR hi2) : Con yX3_readNumber cX3_readNumber 3 (some .boolean) 1 22 [.ref 1, .int (iI lo), .int (iI hi2)] τ (AnsQ (NumQ τ L (numR (fun j : Nat => σ.1 2 j) L lo hi2 i))) := by
  have q := k_number τ L i h.2.1 hL5 h.2.2.2 hiL lo hi2 hlo hhi
  rw [h.c hP] at q
  exact q
/-- what a cell but the reader's holds behind a number -/
theorem RdS.at {τ υ : Mem} {L : Nat} {x : Int} {a e : Nat} (h : RdS τ υ L x a e) {c : Nat} (hc : c ≠ 1) (k : Int) : υ.1 c k = τ.1 c k := h.1.1.at (fun q => hc q) k
theorem k_other {σ τ : Mem} {P L i : Nat} (h : RdI σ τ P L i) (hP : P = 3 ∨ P = 20) (hL5 : L ≤ 500) (hiL : i ≤ L) (n : Nat) (hn : τ.1 P 0 = n) (hn8 : n ≤ 8) (u : Int) (hu : inR u) : Con yX3_readOtherPole cX3_readOtherPole 3 (some .boolean) 2 44 [.ref 1, .ref P, .int (iI u)] τ (AnsQ (NumQ τ L (othR (fun j : Nat => σ.1 2 j) L n u i))) := by
  refine con_of (by decide) rfl (Nat.le_of_ble_eq_true rfl) (ok_QZ rfl (fun z τ h => h.z)) ?_
  refine ev_w (fun hR => ?_)
  have hR0 := hR
  refine ev_aload_n dX3_readOtherPole_0 rfl ?_
  refine ev_iconst dX3_readOtherPole_1 ?_
  refine ev_aload_n dX3_readOtherPole_2 rfl ?_
  refine ev_getI (kz := 0) dX3_readOtherPole_3 fl_X3_59 (plO hP) rfl rfl ?_
  rw [hn]
  refine ev_iconst dX3_readOtherPole_6 ?_
  refine ev_isub dX3_readOtherPole_7 ?_
  refine ev_callVP dX3_readOtherPole_8 kv_X3_99 (k_num h hP hL5 hiL 0 ((n : Int) - 1) (by decide) ⟨by omega, by omega⟩) rfl rfl (ci := 3) rfl rfl ⟨by decide, by decide⟩ (Nat.le_of_ble_eq_true rfl) ?_
  rintro v_8 τ_8 ⟨z_8, rfl, hz_8⟩
  refine ev_w (fun hR => ?_)
  refine ev_if_ne (tgt := 16) dX3_readOtherPole_11 (by decide) hz_8.R (fun h_11 => ?_) (fun h_11 => ?_)
  · obtain ⟨x1, a1, e1, hN1, hS1⟩ := hz_8.ok h_11
    have hO : othR (fun j : Nat => σ.1 2 j) L n u i = if x1 = u then .inl (4, a1) else .inr (x1, a1, e1) := by unfold othR; rw [hN1]
    have hb := numR_ok hN1 hiL
    have g5 := hS1.1.2.2.2.2
    refine ev_aload_n dX3_readOtherPole_16 rfl ?_
    refine ev_getI (kz := 6) dX3_readOtherPole_17 fl_X3_31 rfl rfl rfl ?_
    rw [hS1.2]
    refine ev_iload_n dX3_readOtherPole_20 rfl ?_
    refine ev_icmp_ne (tgt := 36) dX3_readOtherPole_21 (by decide) (by first | exact hR.1 _ _ | exact hR0.1 _ _ | assumption | exact ⟨by omega, by omega⟩ | exact ⟨by simp [wr_at]; omega, by simp [wr_at]; omega⟩ | exact b2_R _ | exact band_R _ _ | exact bor_R _ _ | exact bshl_R _ _ | exact bshr_R _ _ | exact bxor_R _ _ | exact bs_R (by omega) | decide) (by first | exact hR.1 _ _ | exact hR0.1 _ _ | assumption | exact ⟨by omega, by omega⟩ | exact ⟨by simp [wr_at]; omega, by simp [wr_at]; omega⟩ | exact b2_R _ | exact band_R _ _ | exact bor_R _ _ | exact bshl_R _ _ | exact bshr_R _ _ | exact bxor_R _ _ | exact bs_R (by omega) | decide) (fun h_21 => ?_) (fun h_21 => ?_)
    · refine ev_iconst dX3_readOtherPole_36 ?_
      refine ev_goto (tgt := 41) dX3_readOtherPole_37 (by decide) ?_
      refine ev_ireturn dX3_readOtherPole_41 ?_
      first
        | exact absurd rfl h_33
        | (refine ⟨0, rfl, Or.inl ⟨rfl, 4, a1, ?_, hS1.1.fail 4 a1⟩⟩
           rw [hO, if_pos (by omega)])
        | (refine ⟨1, rfl, Or.inr ⟨rfl, x1, a1, e1, ?_, hS1⟩⟩
           rw [hO, if_neg (by omega)])
    · refine ev_aload_n dX3_readOtherPole_24 rfl ?_
      refine ev_iconst dX3_readOtherPole_25 ?_
      refine ev_aload_n dX3_readOtherPole_26 rfl ?_
      refine ev_getI (kz := 5) dX3_readOtherPole_27 fl_X3_28 rfl rfl rfl ?_
      rw [g5]
      refine ev_callVI dX3_readOtherPole_30 kv_X3_96 (k_fail τ_8 4 _ (by decide) ⟨by omega, by omega⟩) rfl rfl (ci := 3) rfl rfl ⟨by decide, by decide⟩ (Nat.le_of_ble_eq_true rfl) ?_
      refine ev_w (fun hR => ?_)
      refine ev_if_eq (tgt := 40) dX3_readOtherPole_33 (by decide) (by first | exact hR.1 _ _ | exact hR0.1 _ _ | assumption | exact ⟨by omega, by omega⟩ | exact ⟨by simp [wr_at]; omega, by simp [wr_at]; omega⟩ | exact b2_R _ | exact band_R _ _ | exact bor_R _ _ | exact bshl_R _ _ | exact bshr_R _ _ | exact bxor_R _ _ | exact bs_R (by omega) | decide) (fun h_33 => ?_) (fun h_33 => ?_)
      · refine ev_iconst dX3_readOtherPole_40 ?_
        refine ev_ireturn dX3_readOtherPole_41 ?_
        first
          | exact absurd rfl h_33
          | (refine ⟨0, rfl, Or.inl ⟨rfl, 4, a1, ?_, hS1.1.fail 4 a1⟩⟩
             rw [hO, if_pos (by omega)])
          | (refine ⟨1, rfl, Or.inr ⟨rfl, x1, a1, e1, ?_, hS1⟩⟩
             rw [hO, if_neg (by omega)])
      · refine ev_iconst dX3_readOtherPole_36 ?_
        refine ev_goto (tgt := 41) dX3_readOtherPole_37 (by decide) ?_
        refine ev_ireturn dX3_readOtherPole_41 ?_
        first
          | exact absurd rfl h_33
          | (refine ⟨0, rfl, Or.inl ⟨rfl, 4, a1, ?_, hS1.1.fail 4 a1⟩⟩
             rw [hO, if_pos (by omega)])
          | (refine ⟨1, rfl, Or.inr ⟨rfl, x1, a1, e1, ?_, hS1⟩⟩
             rw [hO, if_neg (by omega)])
  · refine ev_iconst dX3_readOtherPole_14 ?_
    refine ev_ireturn dX3_readOtherPole_15 ?_
    obtain ⟨f, w, hN, hF⟩ := hz_8.bad h_11
    refine ⟨0, rfl, Or.inl ⟨rfl, f, w, ?_, hF⟩⟩
    unfold othR
    rw [hN]
theorem k_readPole (σ : Mem) (P L i : Nat) (d : PD) (hP : P = 3 ∨ P = 20) (hL5 : L ≤ 500) (hiL : i ≤ L) (hI : RdI σ σ P L i) (hD : PRep σ P d) (hA : RAt σ P d) (hK : PDok d) (hf : d.1 0 < 8) : Con yX3_readPole cX3_readPole 3 (some .boolean) 2 44 [.ref 1, .ref P] σ (AnsQ (BodyQ σ P L (poleR (fun j : Nat => σ.1 2 j) L d i))) := by
  refine con_of (by decide) rfl (Nat.le_of_ble_eq_true rfl) (ok_QZ rfl (fun z τ h => h.z)) ?_
  refine ev_w (fun hR => ?_)
  have hR0 := hR
  obtain ⟨hcn, hrw⟩ := id hD
  have hnp : σ.1 P 0 = d.1 0 := hcn 0 (by decide)
  have hnr : σ.1 P 1 = d.1 1 := hcn 1 (by decide)
  have hnb : σ.1 P 2 = d.1 2 := hcn 2 (by decide)
  have hnl : σ.1 P 3 = d.1 3 := hcn 3 (by decide)
  obtain ⟨kp8, kr12, kb4, kl4, kp, kr, kb, kl⟩ := id hK
  refine ev_aload_n dX3_readPole_0 rfl ?_
  refine ev_getI (kz := 0) dX3_readPole_1 fl_X3_59 (plO hP) rfl rfl ?_
  rw [hnp]
  refine ev_istore_n dX3_readPole_4 rfl (by decide) rfl ?_
  refine ev_aload_n dX3_readPole_5 rfl ?_
  refine ev_iconst dX3_readPole_6 ?_
  refine ev_bipush dX3_readPole_7 (by decide) ?_
  refine ev_callVP dX3_readPole_9 kv_X3_99 (k_num hI hP hL5 hiL 0 99 (by decide) (by decide)) rfl rfl (ci := 3) rfl rfl ⟨by decide, by decide⟩ (Nat.le_of_ble_eq_true rfl) ?_
  rintro v_9 τ_9 ⟨z_9, rfl, hz_9⟩
  refine ev_w (fun hR => ?_)
  refine ev_if_ne (tgt := 17) dX3_readPole_12 (by decide) hz_9.R (fun h_12 => ?_) (fun h_12 => ?_)
  · obtain ⟨x1, a1, e1, hN1, hS1⟩ := hz_9.ok h_12
    have hb1 := numR_ok hN1 hiL
    have hi1 := hI.num hS1
    refine ev_aload_n dX3_readPole_17 rfl ?_
    refine ev_getR (r := P + 1) dX3_readPole_18 fl_X3_102 (plO hP) rfl rfl ?_
    refine ev_iload_n dX3_readPole_21 rfl ?_
    refine ev_aload_n dX3_readPole_22 rfl ?_
    refine ev_getI (kz := 6) dX3_readPole_23 fl_X3_31 rfl rfl rfl ?_
    rw [hS1.2]
    refine ev_iastore dX3_readPole_26 (plA1 hP) (by first | omega | (simp [wr_at]; omega) | (simp [wr_at, *]; omega)) (by first | omega | (simp [wr_at]; omega) | (simp [wr_at, *]; omega)) (by decide) (by first | exact hR.1 _ _ | exact hR0.1 _ _ | assumption | exact ⟨by omega, by omega⟩ | exact ⟨by simp [wr_at]; omega, by simp [wr_at]; omega⟩ | exact b2_R _ | exact band_R _ _ | exact bor_R _ _ | exact bshl_R _ _ | exact bshr_R _ _ | exact bxor_R _ _ | exact bs_R (by omega) | decide) ?_
    refine ev_w (fun hR => ?_)
    have hj1 := hi1.wr hP (c := P + 1) ((d.1 0 : Nat) : Int) x1 (by omega) (by omega)
    refine ev_aload_n dX3_readPole_27 rfl ?_
    refine ev_iconst dX3_readPole_28 ?_
    refine ev_bipush dX3_readPole_29 (by decide) ?_
    refine ev_callVP dX3_readPole_31 kv_X3_99 (k_num hj1 hP hL5 (by omega) 0 99 (by decide) (by decide)) rfl rfl (ci := 3) rfl rfl ⟨by decide, by decide⟩ (Nat.le_of_ble_eq_true rfl) ?_
    rintro v_31 τ_31 ⟨z_31, rfl, hz_31⟩
    refine ev_w (fun hR => ?_)
    refine ev_if_ne (tgt := 39) dX3_readPole_34 (by decide) hz_31.R (fun h_34 => ?_) (fun h_34 => ?_)
    · obtain ⟨x2, a2, e2, hN2, hS2⟩ := hz_31.ok h_34
      have hb2 := numR_ok hN2 hb1.2.2.2.2
      have hi2 := hj1.num hS2
      refine ev_aload_n dX3_readPole_39 rfl ?_
      refine ev_getR (r := P + 2) dX3_readPole_40 fl_X3_106 (plO hP) rfl rfl ?_
      refine ev_iload_n dX3_readPole_43 rfl ?_
      refine ev_aload_n dX3_readPole_44 rfl ?_
      refine ev_getI (kz := 6) dX3_readPole_45 fl_X3_31 rfl rfl rfl ?_
      rw [hS2.2]
      refine ev_iastore dX3_readPole_48 (plA2 hP) (by first | omega | (simp [wr_at]; omega) | (simp [wr_at, *]; omega)) (by first | omega | (simp [wr_at]; omega) | (simp [wr_at, *]; omega)) (by decide) (by first | exact hR.1 _ _ | exact hR0.1 _ _ | assumption | exact ⟨by omega, by omega⟩ | exact ⟨by simp [wr_at]; omega, by simp [wr_at]; omega⟩ | exact b2_R _ | exact band_R _ _ | exact bor_R _ _ | exact bshl_R _ _ | exact bshr_R _ _ | exact bxor_R _ _ | exact bs_R (by omega) | decide) ?_
      refine ev_w (fun hR => ?_)
      have hj2 := hi2.wr hP (c := P + 2) ((d.1 0 : Nat) : Int) x2 (by omega) (by omega)
      refine ev_aload_n dX3_readPole_49 rfl ?_
      refine ev_iconst dX3_readPole_50 ?_
      refine ev_iconst dX3_readPole_51 ?_
      refine ev_callVP dX3_readPole_52 kv_X3_99 (k_num hj2 hP hL5 (by omega) 1 5 (by decide) (by decide)) rfl rfl (ci := 3) rfl rfl ⟨by decide, by decide⟩ (Nat.le_of_ble_eq_true rfl) ?_
      rintro v_52 τ_52 ⟨z_52, rfl, hz_52⟩
      refine ev_w (fun hR => ?_)
      refine ev_if_ne (tgt := 60) dX3_readPole_55 (by decide) hz_52.R (fun h_55 => ?_) (fun h_55 => ?_)
      · obtain ⟨x3, a3, e3, hN3, hS3⟩ := hz_52.ok h_55
        have hb3 := numR_ok hN3 hb2.2.2.2.2
        have hi3 := hj2.num hS3
        refine ev_aload_n dX3_readPole_60 rfl ?_
        refine ev_getR (r := P + 3) dX3_readPole_61 fl_X3_109 (plO hP) rfl rfl ?_
        refine ev_iload_n dX3_readPole_64 rfl ?_
        refine ev_aload_n dX3_readPole_65 rfl ?_
        refine ev_getI (kz := 6) dX3_readPole_66 fl_X3_31 rfl rfl rfl ?_
        rw [hS3.2]
        refine ev_iastore dX3_readPole_69 (plA3 hP) (by first | omega | (simp [wr_at]; omega) | (simp [wr_at, *]; omega)) (by first | omega | (simp [wr_at]; omega) | (simp [wr_at, *]; omega)) (by decide) (by first | exact hR.1 _ _ | exact hR0.1 _ _ | assumption | exact ⟨by omega, by omega⟩ | exact ⟨by simp [wr_at]; omega, by simp [wr_at]; omega⟩ | exact b2_R _ | exact band_R _ _ | exact bor_R _ _ | exact bshl_R _ _ | exact bshr_R _ _ | exact bxor_R _ _ | exact bs_R (by omega) | decide) ?_
        refine ev_w (fun hR => ?_)
        have hj3 := hi3.wr hP (c := P + 3) ((d.1 0 : Nat) : Int) x3 (by omega) (by omega)
        have hm3 : ∀ c k, c ≠ 1 → (wr τ_52 (P + 3) ((d.1 0 : Nat) : Int) x3).1 c k = if c = P + 3 ∧ k = ((d.1 0 : Nat) : Int) then x3 else if c = P + 2 ∧ k = ((d.1 0 : Nat) : Int) then x2 else if c = P + 1 ∧ k = ((d.1 0 : Nat) : Int) then x1 else σ.1 c k := by
          intro c k hc
          rw [wr_at, hS3.at hc, wr_at, hS2.at hc, wr_at, hS1.at hc]
        have hm0 : (wr τ_52 (P + 3) ((d.1 0 : Nat) : Int) x3).1 P 0 = ((d.1 0 : Nat) : Int) := by
          rw [hm3 _ _ (by omega)]
          repeat' (first | rw [if_pos (by omega)] | rw [if_neg (by omega)])
          exact hnp
        refine ev_aload_n dX3_readPole_70 rfl ?_
        refine ev_dup dX3_readPole_71 rfl ?_
        refine ev_getI (kz := 0) dX3_readPole_72 fl_X3_59 (plO hP) rfl rfl ?_
        rw [hm0]
        refine ev_iconst dX3_readPole_75 ?_
        refine ev_iadd dX3_readPole_76 ?_
        refine ev_putI (kz := 0) dX3_readPole_77 fp_X3_59 (plO hP) rfl rfl (by first | exact hR.1 _ _ | exact hR0.1 _ _ | assumption | exact ⟨by omega, by omega⟩ | exact ⟨by simp [wr_at]; omega, by simp [wr_at]; omega⟩ | exact b2_R _ | exact band_R _ _ | exact bor_R _ _ | exact bshl_R _ _ | exact bshr_R _ _ | exact bxor_R _ _ | exact bs_R (by omega) | decide) ?_
        refine ev_w (fun hR => ?_)
        refine ev_iconst dX3_readPole_80 ?_
        refine ev_ireturn dX3_readPole_81 ?_
        have hj4 := hj3.wr hP (c := P) 0 (((d.1 0 : Nat) : Int) + 1) (by omega) (by omega)
        refine ⟨1, rfl, Or.inr ⟨rfl, addD d 0 (v3 1 x1 x2 x3), e3, ?_, ?_⟩⟩
        · unfold poleR
          simp only [hN1, hN2, hN3]
        have hm : ∀ c k, c ≠ 1 → (wr (wr τ_52 (P + 3) ((d.1 0 : Nat) : Int) x3) P 0 (((d.1 0 : Nat) : Int) + 1)).1 c k = if c = P ∧ k = 0 then ((d.1 0 : Nat) : Int) + 1 else if c = P + 3 ∧ k = ((d.1 0 : Nat) : Int) then x3 else if c = P + 2 ∧ k = ((d.1 0 : Nat) : Int) then x2 else if c = P + 1 ∧ k = ((d.1 0 : Nat) : Int) then x1 else σ.1 c k := by
          intro c k hc
          rw [wr_at, wr_at, hS3.at hc, wr_at, hS2.at hc, wr_at, hS1.at hc]
        refine ⟨hj4.1, hj4.2.1, hj4.2.2.1, hj4.2.2.2, PRepG.add (τ := wr (wr τ_52 (P + 3) ((d.1 0 : Nat) : Int) x3) P 0 (((d.1 0 : Nat) : Int) + 1)) hD 0 _ ?_ ?_ ?_ ?_, ?_⟩
        · rw [hm _ _ (by omega), if_pos ⟨rfl, rfl⟩]
        · intro k hk hne
          unfold fld4
          rw [hm _ _ (by omega)]
          repeat' (first | rw [if_pos (by omega)] | rw [if_neg (by omega)])
        · intro j hj hg
          have hjj : j = 1 ∨ j = 2 ∨ j = 3 := by
            unfold row at hj
            unfold grp at hg
            repeat (first | omega | split at hg)
          rw [hm _ _ (by omega)]
          rcases hjj with rfl | rfl | rfl
          · unfold v3
            repeat' (first | rw [if_pos (by omega)] | rw [if_neg (by omega)])
          · unfold v3
            repeat' (first | rw [if_pos (by omega)] | rw [if_neg (by omega)])
          · unfold v3
            repeat' (first | rw [if_pos (by omega)] | rw [if_neg (by omega)])
        · intro j hj p hp
          have hj2 : 1 ≤ j ∧ j ≤ 16 ∧ j ≠ 4 := hj
          rw [hm _ _ (by omega)]
          have hgp : (1 ≤ j ∧ j ≤ 3) → p < d.1 0 := fun q => by
            have e : grp j = 0 := by unfold grp; repeat' (first | omega | split)
            rw [e] at hp
            exact hp
          have hgp2 : ¬ ((1 ≤ j ∧ j ≤ 3)) ∨ p < d.1 0 := by
            by_cases q : (1 ≤ j ∧ j ≤ 3)
            · exact Or.inr (hgp q)
            · exact Or.inl q
          repeat' (first | rw [if_pos (by omega)] | rw [if_neg (by omega)])
        · intro p hpp
          rw [hm _ _ (by omega)]
          repeat' (first | rw [if_pos (by omega)] | rw [if_neg (by omega)])
          exact hA p hpp
      · refine ev_iconst dX3_readPole_58 ?_
        refine ev_ireturn dX3_readPole_59 ?_
        obtain ⟨f, w, hN, hF⟩ := hz_52.bad h_55
        refine ⟨0, rfl, Or.inl ⟨rfl, f, w, ?_, hj2.bad hF⟩⟩
        unfold poleR
        simp only [hN1, hN2, hN]
    · refine ev_iconst dX3_readPole_37 ?_
      refine ev_ireturn dX3_readPole_38 ?_
      obtain ⟨f, w, hN, hF⟩ := hz_31.bad h_34
      refine ⟨0, rfl, Or.inl ⟨rfl, f, w, ?_, hj1.bad hF⟩⟩
      unfold poleR
      simp only [hN1, hN]
  · refine ev_iconst dX3_readPole_15 ?_
    refine ev_ireturn dX3_readPole_16 ?_
    obtain ⟨f, w, hN, hF⟩ := hz_9.bad h_12
    refine ⟨0, rfl, Or.inl ⟨rfl, f, w, ?_, hI.bad hF⟩⟩
    unfold poleR
    simp only [hN]
