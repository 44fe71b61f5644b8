/-! calls by the answer's kind; loops; shapes of plans and states -/
section CALLS
variable {own : String} {cc : ByteArray} {nL fr lo : Nat} {Φ : Option Value → Mem → Prop} {pc : Nat} {ab : List (Option Value)} {st rest : List Value} {σ σ' : Mem} {y : MethodName} {host : String} {cc' : ByteArray} {nL' fr' lo' n c ci idx : Nat} {ret : Option FieldType} {av : List Value} {T : u_T} {N : Nat} {z : Int}
theorem ev_callVI (hd : decode cc pc = .ok (.invokevirtual idx, 3)) (hK : KV own idx y cc' nL' ret n) (hC : Con y cc' nL' ret fr' lo' (.ref c :: av) σ (AnsI z σ')) (hst : st = av.reverse ++ .ref c :: rest) (hsh : shapes[c]? = some (.inl ci)) (hcl : vwCl[ci]? = some (y.cls, T, N)) (hn : av.length = n) (hroom : fr' + 1 ≤ fr ∧ 8 + (nL' + 11) + lo' ≤ lo) (hcat : (rest.map fun v => v.category).sum ≤ 8) (kk : Ev own cc nL fr lo Φ (pc + 3) ab (.int (iI z) :: rest) σ') : Ev own cc nL fr lo Φ pc ab st σ := ev_callV hd hK hst hsh hcl hn hroom hcat hC (by rintro v τ ⟨rfl, rfl⟩; exact kk)
theorem ev_callVV (hd : decode cc pc = .ok (.invokevirtual idx, 3)) (hK : KV own idx y cc' nL' ret n) (hC : Con y cc' nL' ret fr' lo' (.ref c :: av) σ (AnsV σ')) (hst : st = av.reverse ++ .ref c :: rest) (hsh : shapes[c]? = some (.inl ci)) (hcl : vwCl[ci]? = some (y.cls, T, N)) (hn : av.length = n) (hroom : fr' + 1 ≤ fr ∧ 8 + (nL' + 11) + lo' ≤ lo) (hcat : (rest.map fun v => v.category).sum ≤ 8) (kk : Ev own cc nL fr lo Φ (pc + 3) ab rest σ') : Ev own cc nL fr lo Φ pc ab st σ := ev_callV hd hK hst hsh hcl hn hroom hcat hC (by rintro v τ ⟨rfl, rfl⟩; exact kk)
theorem ev_callSI (hd : decode cc pc = .ok (.invokestatic idx, 3)) (hK : KS own idx y cc' nL' ret n) (hC : Con y cc' nL' ret fr' lo' av σ (AnsI z σ')) (hst : st = av.reverse ++ rest) (hn : av.length = n) (hroom : fr' + 1 ≤ fr ∧ 8 + (nL' + 11) + lo' ≤ lo) (hcat : (rest.map fun v => v.category).sum ≤ 8) (kk : Ev own cc nL fr lo Φ (pc + 3) ab (.int (iI z) :: rest) σ') : Ev own cc nL fr lo Φ pc ab st σ := ev_callS hd hK hst hn hroom hcat hC (by rintro v τ ⟨rfl, rfl⟩; exact kk)
theorem ev_callSV (hd : decode cc pc = .ok (.invokestatic idx, 3)) (hK : KS own idx y cc' nL' ret n) (hC : Con y cc' nL' ret fr' lo' av σ (AnsV σ')) (hst : st = av.reverse ++ rest) (hn : av.length = n) (hroom : fr' + 1 ≤ fr ∧ 8 + (nL' + 11) + lo' ≤ lo) (hcat : (rest.map fun v => v.category).sum ≤ 8) (kk : Ev own cc nL fr lo Φ (pc + 3) ab rest σ') : Ev own cc nL fr lo Φ pc ab st σ := ev_callS hd hK hst hn hroom hcat hC (by rintro v τ ⟨rfl, rfl⟩; exact kk)
theorem ev_callSL (hd : decode cc pc = .ok (.invokestatic idx, 3)) (hK : KS own idx y cc' nL' ret n) (hC : Con y cc' nL' ret fr' lo' av σ (AnsL z σ')) (hst : st = av.reverse ++ rest) (hn : av.length = n) (hroom : fr' + 1 ≤ fr ∧ 8 + (nL' + 11) + lo' ≤ lo) (hcat : (rest.map fun v => v.category).sum ≤ 8) (kk : Ev own cc nL fr lo Φ (pc + 3) ab (.long (lI z) :: rest) σ') : Ev own cc nL fr lo Φ pc ab st σ := ev_callS hd hK hst hn hroom hcat hC (by rintro v τ ⟨rfl, rfl⟩; exact kk)
theorem ev_callNI (hd : decode cc pc = .ok (.invokestatic idx, 3)) (hK : KN own idx y host cc' nL' ret n) (hC : Con y cc' nL' ret fr' lo' av σ (AnsI z σ')) (hst : st = av.reverse ++ rest) (hn : av.length = n) (hroom : fr' + 1 ≤ fr ∧ 8 + (nL' + 11) + lo' ≤ lo) (hcat : (rest.map fun v => v.category).sum ≤ 8) (kk : Ev own cc nL fr lo Φ (pc + 3) ab (.int (iI z) :: rest) σ') : Ev own cc nL fr lo Φ pc ab st σ := ev_callN hd hK hst hn hroom hcat hC (by rintro v τ ⟨rfl, rfl⟩; exact kk)
end CALLS
theorem for_up {P : Nat → Prop} (n : Nat) (step : ∀ i, i ≤ n → (i < n → P (i + 1)) → P i) : ∀ i, i ≤ n → P i := by
  intro i hi
  induction hd : n - i generalizing i with
  | zero => exact step i hi (fun h => by omega)
  | succ d ih => exact step i hi (fun h => ih (i + 1) h (by omega))
theorem plO {P : Nat} (h : P = 3 ∨ P = 20) : shapes[P]? = some (.inl 2) := by rcases h with rfl | rfl <;> rfl
theorem plA1 {P : Nat} (h : P = 3 ∨ P = 20) : shapes[P + 1]? = some (.inr (0, 8)) := by rcases h with rfl | rfl <;> rfl
theorem plA2 {P : Nat} (h : P = 3 ∨ P = 20) : shapes[P + 2]? = some (.inr (0, 8)) := by rcases h with rfl | rfl <;> rfl
theorem plA3 {P : Nat} (h : P = 3 ∨ P = 20) : shapes[P + 3]? = some (.inr (0, 8)) := by rcases h with rfl | rfl <;> rfl
theorem plA4 {P : Nat} (h : P = 3 ∨ P = 20) : shapes[P + 4]? = some (.inr (0, 8)) := by rcases h with rfl | rfl <;> rfl
theorem plA5 {P : Nat} (h : P = 3 ∨ P = 20) : shapes[P + 5]? = some (.inr (0, 12)) := by rcases h with rfl | rfl <;> rfl
theorem plA6 {P : Nat} (h : P = 3 ∨ P = 20) : shapes[P + 6]? = some (.inr (0, 12)) := by rcases h with rfl | rfl <;> rfl
theorem plA7 {P : Nat} (h : P = 3 ∨ P = 20) : shapes[P + 7]? = some (.inr (0, 12)) := by rcases h with rfl | rfl <;> rfl
theorem plA8 {P : Nat} (h : P = 3 ∨ P = 20) : shapes[P + 8]? = some (.inr (0, 12)) := by rcases h with rfl | rfl <;> rfl
theorem plA9 {P : Nat} (h : P = 3 ∨ P = 20) : shapes[P + 9]? = some (.inr (0, 4)) := by rcases h with rfl | rfl <;> rfl
theorem plA10 {P : Nat} (h : P = 3 ∨ P = 20) : shapes[P + 10]? = some (.inr (0, 4)) := by rcases h with rfl | rfl <;> rfl
theorem plA11 {P : Nat} (h : P = 3 ∨ P = 20) : shapes[P + 11]? = some (.inr (0, 4)) := by rcases h with rfl | rfl <;> rfl
theorem plA12 {P : Nat} (h : P = 3 ∨ P = 20) : shapes[P + 12]? = some (.inr (0, 4)) := by rcases h with rfl | rfl <;> rfl
theorem plA13 {P : Nat} (h : P = 3 ∨ P = 20) : shapes[P + 13]? = some (.inr (0, 4)) := by rcases h with rfl | rfl <;> rfl
theorem plA14 {P : Nat} (h : P = 3 ∨ P = 20) : shapes[P + 14]? = some (.inr (0, 4)) := by rcases h with rfl | rfl <;> rfl
theorem plA15 {P : Nat} (h : P = 3 ∨ P = 20) : shapes[P + 15]? = some (.inr (0, 4)) := by rcases h with rfl | rfl <;> rfl
theorem plA16 {P : Nat} (h : P = 3 ∨ P = 20) : shapes[P + 16]? = some (.inr (0, 4)) := by rcases h with rfl | rfl <;> rfl
theorem stO {t : Nat} (h : t = 37 ∨ t = 47 ∨ t = 56) : shapes[t]? = some (.inl 5) := by rcases h with rfl | rfl | rfl <;> rfl
theorem stA1 {t : Nat} (h : t = 37 ∨ t = 47 ∨ t = 56) : shapes[t + 1]? = some (.inr (0, 12)) := by rcases h with rfl | rfl | rfl <;> rfl
theorem stA2 {t : Nat} (h : t = 37 ∨ t = 47 ∨ t = 56) : shapes[t + 2]? = some (.inr (0, 4)) := by rcases h with rfl | rfl | rfl <;> rfl
theorem stA3 {t : Nat} (h : t = 37 ∨ t = 47 ∨ t = 56) : shapes[t + 3]? = some (.inr (0, 4)) := by rcases h with rfl | rfl | rfl <;> rfl
theorem stA4 {t : Nat} (h : t = 37 ∨ t = 47 ∨ t = 56) : shapes[t + 4]? = some (.inr (0, 4)) := by rcases h with rfl | rfl | rfl <;> rfl
theorem stA5 {t : Nat} (h : t = 37 ∨ t = 47 ∨ t = 56) : shapes[t + 5]? = some (.inr (0, 4)) := by rcases h with rfl | rfl | rfl <;> rfl
theorem stA6 {t : Nat} (h : t = 37 ∨ t = 47 ∨ t = 56) : shapes[t + 6]? = some (.inr (0, 4)) := by rcases h with rfl | rfl | rfl <;> rfl
theorem stA7 {t : Nat} (h : t = 37 ∨ t = 47 ∨ t = 56) : shapes[t + 7]? = some (.inr (0, 200)) := by rcases h with rfl | rfl | rfl <;> rfl
theorem stA8 {t : Nat} (h : t = 37 ∨ t = 47 ∨ t = 56) : shapes[t + 8]? = some (.inr (0, 200)) := by rcases h with rfl | rfl | rfl <;> rfl
theorem sole_J1 : ∀ j, j ≠ 39 → (fkd 8 j).1 ≠ 1 := by
  intro j hj
  by_cases h : j < 74
  · have : ∀ j, j < 74 → j ≠ 39 → (fkd 8 j).1 ≠ 1 := by decide +kernel
    exact this j h hj
  · have : fkd 8 j = (0, 0) := by
      unfold fkd
      rw [List.getD_eq_getElem?_getD, List.getElem?_eq_none (by show 74 ≤ j; omega)]
      rfl
    rw [this]; decide
def jok (c : Nat) : Bool := match shapes[c]? with
  | some (.inl ci) => (List.range (nfld ci)).all (fun j => (fkd ci j).1 != 1)
  | _ => true
theorem jok_all : (List.range 134).all (fun c => c == 79 || jok c) = true := by decide +kernel
theorem sole_J2 : ∀ c' ci', c' ≠ 79 → shapes[c']? = some (.inl ci') → ∀ j, j < nfld ci' → (fkd ci' j).1 ≠ 1 := by
  intro c' ci' hne hsh j hj
  have h1 := List.all_eq_true.mp jok_all c' (List.mem_range.mpr (shapes_lt hsh))
  have h2 : (c' == 79) = false := by simpa using hne
  rw [h2, Bool.false_or] at h1
  unfold jok at h1
  rw [hsh] at h1
  have h3 := List.all_eq_true.mp h1 j (List.mem_range.mpr hj)
  simpa using h3
