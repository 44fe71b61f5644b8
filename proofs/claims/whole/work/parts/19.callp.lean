/-! calls by a contract whose outcome is any that a predicate allows; the same-outside relation -/
section CALLP
variable {own : String} {cc : ByteArray} {nL fr lo : Nat} {Φ : Option Value → Mem → Prop} {pc : Nat} {ab : List (Option Value)} {st rest : List Value} {σ : Mem} {y : MethodName} {host : String} {cc' : ByteArray} {nL' fr' lo' n c ci idx : Nat} {ret : Option FieldType} {av : List Value} {T : u_T} {N : Nat} {Ψ : Option Value → Mem → Prop}
theorem ev_callVP (hd : decode cc pc = .ok (.invokevirtual idx, 3)) (hK : KV own idx y cc' nL' ret n) (hC : Con y cc' nL' ret fr' lo' (.ref c :: av) σ Ψ) (hst : st = av.reverse ++ .ref c :: rest) (hsh : shapes[c]? = some (.inl ci)) (hcl : vwCl[ci]? = some (y.cls, T, N)) (hn : av.length = n) (hroom : fr' + 1 ≤ fr ∧ 8 + (nL' + 11) + lo' ≤ lo) (hcat : (rest.map fun v => v.category).sum ≤ 8) (kk : ∀ v σ', Ψ v σ' → Ev own cc nL fr lo Φ (pc + 3) ab (v.toList ++ rest) σ') : Ev own cc nL fr lo Φ pc ab st σ := ev_callV hd hK hst hsh hcl hn hroom hcat hC kk
theorem ev_callSP (hd : decode cc pc = .ok (.invokestatic idx, 3)) (hK : KS own idx y cc' nL' ret n) (hC : Con y cc' nL' ret fr' lo' av σ Ψ) (hst : st = av.reverse ++ rest) (hn : av.length = n) (hroom : fr' + 1 ≤ fr ∧ 8 + (nL' + 11) + lo' ≤ lo) (hcat : (rest.map fun v => v.category).sum ≤ 8) (kk : ∀ v σ', Ψ v σ' → Ev own cc nL fr lo Φ (pc + 3) ab (v.toList ++ rest) σ') : Ev own cc nL fr lo Φ pc ab st σ := ev_callS hd hK hst hn hroom hcat hC kk
end CALLP
/-- the same memory but for the cells that S names -/
def Same (S : Nat → Prop) (σ τ : Mem) : Prop := (∀ c, ¬ S c → τ.1 c = σ.1 c) ∧ τ.2 = σ.2
theorem Same.rf {S : Nat → Prop} {σ : Mem} : Same S σ σ := ⟨fun _ _ => rfl, rfl⟩
theorem Same.tr {S : Nat → Prop} {σ τ υ : Mem} (h1 : Same S σ τ) (h2 : Same S τ υ) : Same S σ υ := ⟨fun c h => (h2.1 c h).trans (h1.1 c h), h2.2.trans h1.2⟩
theorem Same.wr {S : Nat → Prop} {σ τ : Mem} (h : Same S σ τ) {c : Nat} {k z : Int} (hc : S c) : Same S σ (wr τ c k z) := by
  refine ⟨fun c' hc' => ?_, h.2⟩
  rw [← h.1 c' hc']
  funext k'
  exact wr_nec τ (fun q => hc' (by rw [q]; exact hc))
theorem Same.fill {S : Nat → Prop} {σ τ : Mem} (h : Same S σ τ) {f : Mem → Mem} (hf : ∀ c, ¬ S c → (f τ).1 c = τ.1 c) (h2 : (f τ).2 = τ.2) : Same S σ (f τ) := ⟨fun c hc => (hf c hc).trans (h.1 c hc), h2.trans h.2⟩
theorem Same.mono {S T : Nat → Prop} {σ τ : Mem} (h : Same S σ τ) (hST : ∀ c, S c → T c) : Same T σ τ := ⟨fun c hc => h.1 c (fun q => hc (hST c q)), h.2⟩
theorem Same.at {S : Nat → Prop} {σ τ : Mem} (h : Same S σ τ) {c : Nat} (hc : ¬ S c) (k : Int) : τ.1 c k = σ.1 c k := by rw [h.1 c hc]
/-- answers with a memory that a predicate allows -/
def AnsIP (z : Int) (Q : Mem → Prop) : Option Value → Mem → Prop := fun v τ => v = some (.int (iI z)) ∧ Q τ
def AnsVP (Q : Mem → Prop) : Option Value → Mem → Prop := fun v τ => v = none ∧ Q τ
def AnsQ (Q : Int → Mem → Prop) : Option Value → Mem → Prop := fun v τ => ∃ z, v = some (.int (iI z)) ∧ Q z τ
theorem ok_IP {z : Int} {Q : Mem → Prop} {ret : Option FieldType} (h : ret = some .int) : ∀ v τ, AnsIP z Q v τ → okRet ret v := by
  rintro v τ ⟨rfl, -⟩
  exact ⟨.int, h, rfl⟩
theorem ok_VP {Q : Mem → Prop} {ret : Option FieldType} (h : ret = none) : ∀ v τ, AnsVP Q v τ → okRet ret v := by
  rintro v τ ⟨rfl, -⟩
  exact h
theorem ok_ZP {z : Int} {Q : Mem → Prop} {ret : Option FieldType} (h : ret = some .boolean) (hz : z = 0 ∨ z = 1) : ∀ v τ, AnsIP z Q v τ → okRet ret v := by
  rintro v τ ⟨rfl, -⟩
  refine ⟨.boolean, h, ?_⟩
  rcases hz with rfl | rfl <;> decide
theorem ok_Q {Q : Int → Mem → Prop} {ret : Option FieldType} (h : ret = some .int) : ∀ v τ, AnsQ Q v τ → okRet ret v := by
  rintro v τ ⟨z, rfl, -⟩
  exact ⟨.int, h, rfl⟩
