/-! Math.max, min, abs; System.arraycopy -/
section EVMATH
variable {own : String} {cc : ByteArray} {nL fr lo : Nat} {Φ : Option Value → Mem → Prop} {pc : Nat} {ab : List (Option Value)} {st : List Value} {σ : Mem}
theorem ev_mmax {idx : Nat} {x y : Int} (hd : decode cc pc = .ok (.invokestatic idx, 3)) (hK : KS own idx yJ9_max_7cf53 cJ9_max_7cf53 2 (some .int) 2) (hx : inR x) (hy : inR y) (hfr : 1 ≤ fr) (hlo : 21 ≤ lo) (hcat : (st.map fun v => v.category).sum ≤ 8) (k : Ev own cc nL fr lo Φ (pc + 3) ab (.int (iI (max x y)) :: st) σ) : Ev own cc nL fr lo Φ pc ab (.int (iI y) :: .int (iI x) :: st) σ := by
  intro p l e R s m args below meth c g A H0 cells slots Q H locs ls C hW hS hL hret
  obtain ⟨k1, k2, k4, k5, -⟩ := hK
  have hts := C.2.2.2.2.1
  refine va_mmax C.1 C.2.1 (C.2.2.1.trans hL.1.symm) C.2.2.2.1 (hts _ k1) (hts _ k2) (hts _ k4) (hts _ k5) (Nat.le_trans hfr C.2.2.2.2.2.2.2.1) ?_ C.2.2.2.2.2.2.2.2.2.1 C.2.2.2.2.2.2.2.2.2.2 hd ?_
  · have h1 := C.2.2.2.2.2.2.2.2.1
    show ((st.map (tr g)).map fun v => v.category).sum + 13 ≤ _
    rw [tr_cats]; omega
  · have he : (if iI x < iI y then iI y else iI x) = iI (max x y) := by
      by_cases h : x < y
      · rw [if_pos ((iI_lt hx hy).mpr h)]; congr 1; omega
      · rw [if_neg (fun q => h ((iI_lt hx hy).mp q))]; congr 1; omega
    rw [he]
    exact k p l e R s m args below meth c g A H0 cells slots Q H locs ls C hW hS hL hret
theorem ev_mmin {idx : Nat} {x y : Int} (hd : decode cc pc = .ok (.invokestatic idx, 3)) (hK : KS own idx yJ9_min_7cf53 cJ9_min_7cf53 2 (some .int) 2) (hx : inR x) (hy : inR y) (hfr : 1 ≤ fr) (hlo : 21 ≤ lo) (hcat : (st.map fun v => v.category).sum ≤ 8) (k : Ev own cc nL fr lo Φ (pc + 3) ab (.int (iI (min x y)) :: st) σ) : Ev own cc nL fr lo Φ pc ab (.int (iI y) :: .int (iI x) :: st) σ := by
  intro p l e R s m args below meth c g A H0 cells slots Q H locs ls C hW hS hL hret
  obtain ⟨k1, k2, k4, k5, -⟩ := hK
  have hts := C.2.2.2.2.1
  refine va_mmin C.1 C.2.1 (C.2.2.1.trans hL.1.symm) C.2.2.2.1 (hts _ k1) (hts _ k2) (hts _ k4) (hts _ k5) (Nat.le_trans hfr C.2.2.2.2.2.2.2.1) ?_ C.2.2.2.2.2.2.2.2.2.1 C.2.2.2.2.2.2.2.2.2.2 hd ?_
  · have h1 := C.2.2.2.2.2.2.2.2.1
    show ((st.map (tr g)).map fun v => v.category).sum + 13 ≤ _
    rw [tr_cats]; omega
  · have he : (if iI y < iI x then iI y else iI x) = iI (min x y) := by
      by_cases h : y < x
      · rw [if_pos ((iI_lt hy hx).mpr h)]; congr 1; omega
      · rw [if_neg (fun q => h ((iI_lt hy hx).mp q))]; congr 1; omega
    rw [he]
    exact k p l e R s m args below meth c g A H0 cells slots Q H locs ls C hW hS hL hret
def absz (x : Int) : Int := if 0 ≤ x then x else -x
theorem ev_mabs {idx : Nat} {x : Int} (hd : decode cc pc = .ok (.invokestatic idx, 3)) (hK : KS own idx yJ9_abs_0f7a4 cJ9_abs_0f7a4 1 (some .int) 1) (hx : inR x) (hfr : 1 ≤ fr) (hlo : 21 ≤ lo) (hcat : (st.map fun v => v.category).sum ≤ 8) (k : Ev own cc nL fr lo Φ (pc + 3) ab (.int (iI (absz x)) :: st) σ) : Ev own cc nL fr lo Φ pc ab (.int (iI x) :: st) σ := by
  intro p l e R s m args below meth c g A H0 cells slots Q H locs ls C hW hS hL hret
  obtain ⟨k1, k2, k4, k5, -⟩ := hK
  have hts := C.2.2.2.2.1
  refine va_mabs C.1 C.2.1 (C.2.2.1.trans hL.1.symm) C.2.2.2.1 (hts _ k1) (hts _ k2) (hts _ k4) (hts _ k5) (Nat.le_trans hfr C.2.2.2.2.2.2.2.1) ?_ C.2.2.2.2.2.2.2.2.2.1 C.2.2.2.2.2.2.2.2.2.2 hd ?_
  · have h1 := C.2.2.2.2.2.2.2.2.1
    show ((st.map (tr g)).map fun v => v.category).sum + 13 ≤ _
    rw [tr_cats]; omega
  · have he : (if 0 ≤ iI x then iI x else 0 - iI x) = iI (absz x) := by
      unfold absz
      rw [← iI_0]
      by_cases h : 0 ≤ x
      · rw [if_pos ((iI_le inR0 hx).mpr h), if_pos h]
      · rw [if_neg (fun q => h ((iI_le inR0 hx).mp q)), if_neg h, iI_sub]; congr 1; omega
    rw [he]
    exact k p l e R s m args below meth c g A H0 cells slots Q H locs ls C hW hS hL hret
theorem ent_eq {g : Geo} {σ σ' : Mem} {c : Nat} (h : σ'.1 c = σ.1 c) (h2 : σ'.2 = σ.2) : ent g σ' c = ent g σ c := by
  simp only [ent, flds, fval, acon, h, h2]
/-- memory with n places of cell c1, from dp on, set to those of cell c0, from sp on -/
def cpyM (σ : Mem) (c0 c1 : Nat) (sp dp n : Int) : Mem := (fun c' k' => if c' = c1 ∧ dp ≤ k' ∧ k' < dp + n then σ.1 c0 (sp + (k' - dp)) else σ.1 c' k', σ.2)
theorem cpyM_at (σ : Mem) (c0 c1 : Nat) (sp dp n : Int) (c' : Nat) (k' : Int) : (cpyM σ c0 c1 sp dp n).1 c' k' = if c' = c1 ∧ dp ≤ k' ∧ k' < dp + n then σ.1 c0 (sp + (k' - dp)) else σ.1 c' k' := rfl
def KA (own : String) (idx : Nat) : Prop := Cond.methodLink own idx arraycopyName ∈ G ∧ Cond.native arraycopyName ∈ G ∧ Cond.static arraycopyName ∈ G ∧ Cond.initialized "java/lang/System" ∈ G
theorem ev_copy {idx c0 c1 n0 n1 : Nat} {sp dp n : Int} (hd : decode cc pc = .ok (.invokestatic idx, 3)) (hK : KA own idx) (hs0 : shapes[c0]? = some (.inr (0, n0))) (hs1 : shapes[c1]? = some (.inr (0, n1))) (h1 : 0 ≤ sp) (h2 : 0 ≤ dp) (h3 : 0 ≤ n) (h4 : sp + n ≤ n0) (h5 : dp + n ≤ n1) (hn0 : n0 ≤ 4096) (hn1 : n1 ≤ 4096) (hfr : 1 ≤ fr) (hlo : 26 ≤ lo) (hcat : (st.map fun v => v.category).sum ≤ 8) (kk : Ev own cc nL fr lo Φ (pc + 3) ab st (cpyM σ c0 c1 sp dp n)) : Ev own cc nL fr lo Φ pc ab (.int (iI n) :: .int (iI dp) :: .ref c1 :: .int (iI sp) :: .ref c0 :: st) σ := by
  intro p l e R s m args below meth c g A H0 cells slots Q H locs ls C hW hS hL hret
  obtain ⟨k1, k2, k3, k4⟩ := hK
  have hts := C.2.2.2.2.1
  have hat0 := cellsG_at g σ (shapes_lt hs0)
  rw [ent_a hs0 (by decide)] at hat0
  have hat1 := cellsG_at g σ (shapes_lt hs1)
  rw [ent_a hs1 (by decide)] at hat1
  have nn : ∀ z : Int, 0 ≤ z → z ≤ 8192 → ¬ iI z < 0 := fun z hz hz2 h => by
    have := (iI_lt (a := z) (b := 0) ⟨by omega, by omega⟩ inR0).mp h
    omega
  refine va_copyi C.1 C.2.1 (C.2.2.1.trans hL.1.symm) C.2.2.2.1 (hts _ k1) (hts _ k2) (hts _ k3) (hts _ k4) C.2.2.2.2.2.1.1 hW.1 (cellsG_D hW.2.1 C.2.2.2.2.2.2.1) hS c0 c1 0 0 hat0 hat1 (tysG_at g rfl) (tysG_at g rfl) rfl (nn sp h1 (by omega)) (nn dp h2 (by omega)) (nn n h3 (by omega)) (by rw [iI_clamp h1 (by omega), iI_clamp h3 (by omega)]; omega) (by rw [iI_clamp h2 (by omega), iI_clamp h3 (by omega)]; omega) (fun _ _ => rfl) (Nat.le_trans hfr C.2.2.2.2.2.2.2.1) ?_ hd (fun H1 locs1 hP hD hS1 => ?_)
  · have h1 := C.2.2.2.2.2.2.2.2.1
    have h6 : nativeFrameWords "java/lang/System" "arraycopy" 5 = 7 := by decide +kernel
    show ((st.map (tr g)).map fun v => v.category).sum + _ ≤ _
    rw [tr_cats, h6]; omega
  · rw [iI_clamp h1 (by omega), iI_clamp h2 (by omega), iI_clamp h3 (by omega)] at hP hD
    have hR' : Rng (cpyM σ c0 c1 sp dp n) := by
      refine ⟨fun c' k' => ?_, hW.2.2.2⟩
      rw [cpyM_at]
      split
      · exact hW.2.2.1 _ _
      · exact hW.2.2.1 _ _
    have hq : (cellsG g σ).set c1 (g.1 c1, .inl (acls g 0, n1, .inl (va_cpy (fun j => iI (σ.1 c0 j)) (fun j => iI (σ.1 c1 j)) sp.toNat dp.toNat n.toNat))) = cellsG g (cpyM σ c0 c1 sp dp n) := by
      refine cellsG_set (shapes_lt hs1) ?_ (fun c' hc' => ent_eq (funext fun k' => ?_) rfl)
      · rw [ent_a hs1 (by decide)]
        congr 3
        congr 1
        funext j
        unfold va_cpy
        rw [cpyM_at]
        by_cases hj : dp.toNat ≤ j ∧ j < dp.toNat + n.toNat
        · rw [if_pos ⟨rfl, by omega, by omega⟩, if_pos hj]
          show _ = iI (σ.1 c0 ((sp.toNat + (j - dp.toNat) : Nat) : Int))
          rw [show ((sp.toNat + (j - dp.toNat) : Nat) : Int) = sp + ((j : Int) - dp) by omega]
        · rw [if_neg (fun q => hj ⟨by omega, by omega⟩), if_neg hj]
      · rw [cpyM_at, if_neg (fun q => hc' q.1)]
    rw [hq] at hP hD
    exact kk p l e R s m args below meth c g A H0 cells slots Q H1 locs1 ls C ⟨hP, cellsG_D' hD, hR'⟩ hS1 hL hret
end EVMATH
theorem ka_X5_69 : KA RX5 69 := ⟨memG 419 (by decide +kernel) rfl, memG 421 (by decide +kernel) rfl, memG 420 (by decide +kernel) rfl, memG 101 (by decide +kernel) rfl⟩
theorem ka_X4_35 : KA RX4 35 := ⟨memG 823 (by decide +kernel) rfl, memG 421 (by decide +kernel) rfl, memG 420 (by decide +kernel) rfl, memG 101 (by decide +kernel) rfl⟩
