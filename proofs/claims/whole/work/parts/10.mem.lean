/-! ===== THE LAYER: whole numbers for ints and longs, cells by number, a method's run over one fixed world ===== -/
def iI (z : Int) : Int32 := Int32.ofInt z
def lI (z : Int) : Int64 := Int64.ofInt z
theorem iI_toInt {z : Int} (h1 : -2147483648 ≤ z) (h2 : z ≤ 2147483647) : (iI z).toInt = z := Int32.toInt_ofInt_of_le (by omega) (by omega)
theorem lI_toInt {z : Int} (h1 : -9223372036854775808 ≤ z) (h2 : z ≤ 9223372036854775807) : (lI z).toInt = z := Int64.toInt_ofInt_of_le (by omega) (by omega)
theorem iI_of (x : Int32) : iI x.toInt = x := Int32.ofInt_toInt x
theorem lI_of (x : Int64) : lI x.toInt = x := Int64.ofInt_toInt x
theorem iI_add (a b : Int) : iI a + iI b = iI (a + b) := (Int32.ofInt_add a b).symm
theorem iI_sub (a b : Int) : iI a - iI b = iI (a - b) := (Int32.ofInt_sub a b).symm
theorem iI_mul (a b : Int) : iI a * iI b = iI (a * b) := (Int32.ofInt_mul a b).symm
theorem iI_neg (a : Int) : -iI a = iI (-a) := (Int32.ofInt_neg a).symm
theorem lI_add (a b : Int) : lI a + lI b = lI (a + b) := (Int64.ofInt_add a b).symm
theorem lI_sub (a b : Int) : lI a - lI b = lI (a - b) := (Int64.ofInt_sub a b).symm
theorem lI_mul (a b : Int) : lI a * lI b = lI (a * b) := (Int64.ofInt_mul a b).symm
abbrev inR (z : Int) : Prop := -2147483648 ≤ z ∧ z ≤ 2147483647
abbrev inL (z : Int) : Prop := -9223372036854775808 ≤ z ∧ z ≤ 9223372036854775807
theorem inR_of (x : Int32) : inR x.toInt := ⟨by have := Int32.le_toInt x; omega, by have := Int32.toInt_lt x; omega⟩
theorem inL_of (x : Int64) : inL x.toInt := ⟨by have := Int64.le_toInt x; omega, by have := Int64.toInt_lt x; omega⟩
theorem iI_lt {a b : Int} (ha : inR a) (hb : inR b) : iI a < iI b ↔ a < b := by rw [Int32.lt_iff_toInt_lt, iI_toInt ha.1 ha.2, iI_toInt hb.1 hb.2]
theorem iI_le {a b : Int} (ha : inR a) (hb : inR b) : iI a ≤ iI b ↔ a ≤ b := by rw [Int32.le_iff_toInt_le, iI_toInt ha.1 ha.2, iI_toInt hb.1 hb.2]
theorem iI_eq {a b : Int} (ha : inR a) (hb : inR b) : iI a = iI b ↔ a = b := by rw [← Int32.toInt_inj, iI_toInt ha.1 ha.2, iI_toInt hb.1 hb.2]
theorem iI_0 : iI 0 = 0 := rfl
theorem inR0 : inR 0 := by decide
theorem iI_clamp {z : Int} (h1 : 0 ≤ z) (h2 : z ≤ 2147483647) : (iI z).toNatClampNeg = z.toNat := Int32.toNatClampNeg_ofInt_of_le (by omega) (by omega)
theorem iI_vin {z : Int} {n : Nat} (h1 : 0 ≤ z) (h2 : z < n) (hn : n ≤ 2147483647) : vp_in (iI z) n := by
  rw [vp_in_iff, iI_toInt (by omega) (by omega)]
  exact ⟨h1, h2⟩
theorem iI_nat (n : Nat) : iI (n : Int) = nI n := by
  show Int32.ofInt (n : Int) = Int32.ofNat n
  exact Int32.ofInt_eq_ofNat
theorem iI_tdiv {a b : Int} (ha : inR a) (hb : inR b) (hm : b ≠ -1) : iI a / iI b = iI (a.tdiv b) := by
  apply Int32.toInt_inj.mp
  have hne : iI b ≠ -1 := fun h => hm ((iI_eq hb (by decide)).mp (show iI b = iI (-1) from h))
  rw [Int32.toInt_div_of_ne_right _ _ hne, iI_toInt ha.1 ha.2, iI_toInt hb.1 hb.2]
  by_cases h0 : b = 0
  · subst h0; rw [Int.tdiv_zero]; rfl
  · have h1 : (a.tdiv b).natAbs ≤ a.natAbs := Int.natAbs_tdiv_le_natAbs a b
    by_cases h2 : a = -2147483648 ∧ b = -1
    · exact absurd h2.2 hm
    · by_cases h3 : a = -2147483648
      · subst h3
        have h4 : (Int.tdiv (-2147483648) b).natAbs ≤ 2147483648 := h1
        by_cases h5 : Int.tdiv (-2147483648) b = 2147483648
        · exfalso
          have h6 := Int.mul_tdiv_add_tmod (-2147483648) b
          have h7 : (Int.tmod (-2147483648) b).natAbs < b.natAbs := by
            rw [Int.natAbs_tmod]; exact Nat.mod_lt _ (by omega)
          rw [h5] at h6
          omega
        · rw [iI_toInt (by omega) (by omega)]
      · rw [iI_toInt (by omega) (by omega)]
theorem iI_trem {a b : Int} (ha : inR a) (hb : inR b) (hm : b ≠ -1) : iI a - iI a / iI b * iI b = iI (a.tmod b) := by
  rw [iI_tdiv ha hb hm, iI_mul, iI_sub]
  congr 1
  have := Int.mul_tdiv_add_tmod a b
  have h2 : b * a.tdiv b = a.tdiv b * b := Int.mul_comm _ _
  omega
/-- bits of ints: what the machine answers, as a whole number -/
def band (a b : Int) : Int := (iI a &&& iI b).toInt
def bor (a b : Int) : Int := (iI a ||| iI b).toInt
def bxor (a b : Int) : Int := (iI a ^^^ iI b).toInt
def bshl (a b : Int) : Int := (iI a <<< (iI b &&& 31)).toInt
def bshr (a b : Int) : Int := (iI a >>> (iI b &&& 31)).toInt
theorem band_R (a b : Int) : inR (band a b) := inR_of _
theorem bor_R (a b : Int) : inR (bor a b) := inR_of _
theorem bxor_R (a b : Int) : inR (bxor a b) := inR_of _
theorem bshl_R (a b : Int) : inR (bshl a b) := inR_of _
theorem bshr_R (a b : Int) : inR (bshr a b) := inR_of _
/-! the words that every contract takes: the tables' good ones -/
def G : List Cond := lw_tbl.filter goodWord
theorem memG {w : Cond} (i : Nat) (h : lw_tbl[i]? = some w) (hg : goodWord w = true) : w ∈ G := List.mem_filter.mpr ⟨List.mem_of_getElem? h, hg⟩
theorem memG' {w : Cond} (h : w ∈ G) : w ∈ lw_tbl ∧ goodWord w = true := List.mem_filter.mp h
theorem goodG {big : List Cond} (hb : ∀ w ∈ G, w ∈ big) {c : Cond} (hc : c ∈ G) : GoodIn big (c :: G) := by
  intro w hw
  have hw' : w ∈ G := by
    rcases List.mem_cons.mp hw with h | h
    · rw [h]; exact hc
    · exact h
  exact ⟨hb w hw', good_of_word (memG' hw').2⟩
/-! memory -/
abbrev Mem : Type := (Nat → Int → Int) × Int
abbrev Geo : Type := (Nat → Nat) × va_G × (ClassId × ClassId × ClassId × ClassId)
def wr (σ : Mem) (c : Nat) (k : Int) (z : Int) : Mem := (fun c' k' => if c' = c ∧ k' = k then z else σ.1 c' k', σ.2)
def wrL (σ : Mem) (z : Int) : Mem := (σ.1, z)
def Rng (σ : Mem) : Prop := (∀ c k, inR (σ.1 c k)) ∧ inL σ.2
theorem wr_R {σ : Mem} (h : Rng σ) {c : Nat} {k z : Int} (hz : inR z) : Rng (wr σ c k z) := by
  refine ⟨fun c' k' => ?_, h.2⟩
  show inR (if c' = c ∧ k' = k then z else σ.1 c' k')
  split
  · exact hz
  · exact h.1 c' k'
theorem wrL_R {σ : Mem} (h : Rng σ) {z : Int} (hz : inL z) : Rng (wrL σ z) := ⟨h.1, hz⟩
theorem wr_eq (σ : Mem) (c : Nat) (k z : Int) : (wr σ c k z).1 c k = z := by simp [wr]
theorem wr_ne (σ : Mem) {c c' : Nat} {k k' z : Int} (h : ¬ (c' = c ∧ k' = k)) : (wr σ c k z).1 c' k' = σ.1 c' k' := by simp only [wr]; rw [if_neg h]
theorem wr_nec (σ : Mem) {c c' : Nat} {k k' z : Int} (h : c' ≠ c) : (wr σ c k z).1 c' k' = σ.1 c' k' := wr_ne σ (fun q => h q.1)
theorem wr_nek (σ : Mem) {c : Nat} {k k' z : Int} (h : k' ≠ k) : (wr σ c k z).1 c k' = σ.1 c k' := wr_ne σ (fun q => h q.2)
theorem wr_at (σ : Mem) (c c' : Nat) (k k' z : Int) : (wr σ c k z).1 c' k' = if c' = c ∧ k' = k then z else σ.1 c' k' := rfl
theorem wr_L (σ : Mem) (c : Nat) (k z : Int) : (wr σ c k z).2 = σ.2 := rfl
theorem wrL_at (σ : Mem) (z : Int) : (wrL σ z).1 = σ.1 := rfl
theorem wrL_L (σ : Mem) (z : Int) : (wrL σ z).2 = z := rfl
def tr (g : Geo) (v : Value) : Value := match v with
  | .ref k => .ref (g.1 k)
  | w => w
theorem tr_cat (g : Geo) (v : Value) : (tr g v).category = v.category := by cases v <;> rfl
theorem tr_cats (g : Geo) (vs : List Value) : ((vs.map (tr g)).map fun v => v.category).sum = (vs.map fun v => v.category).sum := by
  rw [List.map_map]
  congr 1
  exact List.map_congr_left (fun v _ => tr_cat g v)
/-- the cells of the world: an object of a class, or an array (0 int, 1 byte, 2 boolean, 3 of State) and its length -/
def shapes : List (Nat ⊕ (Nat × Nat)) := [.inl 7, .inl 3, .inr (1, 500), .inl 2, .inr (0, 8), .inr (0, 8), .inr (0, 8), .inr (0, 8), .inr (0, 12), .inr (0, 12), .inr (0, 12), .inr (0, 12), .inr (0, 4), .inr (0, 4), .inr (0, 4), .inr (0, 4), .inr (0, 4), .inr (0, 4), .inr (0, 4), .inr (0, 4), .inl 2, .inr (0, 8), .inr (0, 8), .inr (0, 8), .inr (0, 8), .inr (0, 12), .inr (0, 12), .inr (0, 12), .inr (0, 12), .inr (0, 4), .inr (0, 4), .inr (0, 4), .inr (0, 4), .inr (0, 4), .inr (0, 4), .inr (0, 4), .inr (0, 4), .inl 5, .inr (0, 12), .inr (0, 4), .inr (0, 4), .inr (0, 4), .inr (0, 4), .inr (0, 4), .inr (0, 200), .inr (0, 200), .inr (3, 2), .inl 5, .inr (0, 12), .inr (0, 4), .inr (0, 4), .inr (0, 4), .inr (0, 4), .inr (0, 4), .inr (0, 200), .inr (0, 200), .inl 5, .inr (0, 12), .inr (0, 4), .inr (0, 4), .inr (0, 4), .inr (0, 4), .inr (0, 4), .inr (0, 200), .inr (0, 200), .inl 0, .inr (0, 20), .inr (0, 20), .inr (0, 20), .inl 6, .inr (0, 12), .inr (0, 64), .inl 4, .inr (0, 4), .inr (0, 4), .inr (0, 1024), .inr (0, 2048), .inl 1, .inr (0, 64), .inl 8, .inr (0, 8), .inr (0, 8), .inr (0, 8), .inr (0, 12), .inr (0, 12), .inr (0, 12), .inr (0, 12), .inr (0, 4), .inr (0, 4), .inr (0, 4), .inr (0, 4), .inr (0, 4), .inr (0, 4), .inr (0, 4), .inr (0, 4), .inr (0, 12), .inr (2, 12), .inr (2, 12), .inr (0, 4), .inr (0, 4), .inr (0, 4), .inr (0, 4), .inr (0, 4), .inr (0, 4), .inr (2, 4), .inr (0, 200), .inr (0, 200), .inr (0, 500), .inr (0, 8), .inr (0, 8), .inr (0, 8), .inr (0, 12), .inr (0, 12), .inr (0, 12), .inr (0, 12), .inr (0, 4), .inr (0, 4), .inr (0, 4), .inr (0, 4), .inr (0, 4), .inr (0, 4), .inr (0, 4), .inr (0, 4), .inr (0, 8), .inr (0, 648), .inr (0, 64), .inr (0, 4), .inr (0, 4), .inr (0, 64), .inr (0, 20), .inr (0, 20), .inr (0, 20), .inr (0, 1000), .inr (2, 2)]
/-- a field: 0 an int, 1 the long, 2 a cell at that many places behind, 3 a cell by its number -/
def ftab : List (List (Nat × Nat)) := [[(0, 0), (2, 1), (2, 2), (2, 3)], [(2, 1), (0, 0), (0, 0)], [(0, 0), (0, 0), (0, 0), (0, 0), (2, 1), (2, 2), (2, 3), (2, 4), (2, 5), (2, 6), (2, 7), (2, 8), (2, 9), (2, 10), (2, 11), (2, 12), (2, 13), (2, 14), (2, 15), (2, 16)], [(2, 1), (0, 0), (0, 0), (0, 0), (0, 0), (0, 0), (0, 0)], [(2, 1), (2, 2), (2, 3), (2, 4)], [(0, 0), (0, 0), (0, 0), (0, 0), (0, 0), (0, 0), (0, 0), (2, 1), (2, 2), (2, 3), (2, 4), (2, 5), (2, 6), (2, 7), (2, 8)], [(2, 1), (2, 2), (0, 0)], [(2, 1), (3, 0), (3, 0), (2, 37), (2, 46), (0, 0), (2, 65), (2, 69), (2, 72), (2, 77)], [(0, 0), (2, 1), (2, 2), (2, 3), (0, 0), (2, 4), (2, 5), (2, 6), (2, 7), (0, 0), (2, 8), (2, 9), (2, 10), (0, 0), (2, 11), (2, 12), (2, 13), (2, 14), (2, 15), (2, 16), (2, 17), (2, 18), (2, 19), (2, 20), (2, 21), (2, 22), (2, 23), (2, 24), (2, 25), (0, 0), (0, 0), (0, 0), (2, 26), (2, 27), (0, 0), (2, 28), (0, 0), (0, 0), (0, 0), (1, 0), (0, 0), (0, 0), (0, 0), (0, 0), (2, 29), (2, 30), (2, 31), (0, 0), (2, 32), (2, 33), (2, 34), (2, 35), (0, 0), (2, 36), (2, 37), (2, 38), (0, 0), (2, 39), (2, 40), (2, 41), (2, 42), (2, 43), (2, 44), (2, 45), (2, 46), (2, 47), (2, 48), (2, 49), (0, 0), (2, 50), (2, 51), (2, 52), (2, 53), (2, 54)]]
abbrev NC : Nat := 134
def imgId (j : Nat) : Nat := 47 + 9 * j
def acls (g : Geo) (t : Nat) : ClassId := if t = 0 then g.2.2.1 else if t = 1 then g.2.2.2.1 else if t = 2 then g.2.2.2.2.1 else g.2.2.2.2.2
def atys : List FieldType := [.int, .byte, .boolean, .object "RopePost$State"]
def tysG (g : Geo) : List (ClassId × FieldType) := [(g.2.2.1, .int), (g.2.2.2.1, .byte), (g.2.2.2.2.1, .boolean), (g.2.2.2.2.2, .object "RopePost$State")]
def fkd (ci k : Nat) : Nat × Nat := (ftab.getD ci []).getD k (0, 0)
def nfld (ci : Nat) : Nat := (ftab.getD ci []).length
def fval (σ : Mem) (c ci k : Nat) : Value := if (fkd ci k).1 = 0 then .int (iI (σ.1 c k)) else if (fkd ci k).1 = 1 then .long (lI σ.2) else if (fkd ci k).1 = 2 then .ref (c + (fkd ci k).2) else .ref (σ.1 c k).toNat
def flds (g : Geo) (σ : Mem) (c ci : Nat) : List Value := (List.range (nfld ci)).map (fun k => tr g (fval σ c ci k))
def acon (g : Geo) (σ : Mem) (c t : Nat) : (Nat → Int32) ⊕ (Nat → Int64) ⊕ (Nat → UInt32) ⊕ (Nat → UInt64) ⊕ (Nat → Option Nat) := if t = 3 then .inr (.inr (.inr (.inr (fun j => some (g.1 (imgId j)))))) else .inl (fun j => iI (σ.1 c j))
def ent (g : Geo) (σ : Mem) (c : Nat) : va_E := match shapes[c]? with
  | some (.inl ci) => .inr (ci, flds g σ c ci)
  | some (.inr (t, n)) => .inl (acls g t, n, acon g σ c t)
  | none => .inr (0, [])
def cellsG (g : Geo) (σ : Mem) : va_W := (List.range NC).map (fun c => (g.1 c, ent g σ c))
def Wd (g : Geo) (σ : Mem) (H : Heap) : Prop := va_P g.2.1 vwCl (cellsG g σ) H ∧ va_D (fun _ => True) (cellsG g σ) ∧ Rng σ
def gA (g : Geo) : Nat → Prop := fun q => ∃ k, k < NC ∧ q = g.1 k
theorem cellsG_at (g : Geo) (σ : Mem) {c : Nat} (h : c < NC) : (cellsG g σ)[c]? = some (g.1 c, ent g σ c) := by
  simp [cellsG, List.getElem?_map, List.getElem?_range h]
theorem cellsG_inv (g : Geo) (σ : Mem) {c : Nat} {q : Nat × va_E} (h : (cellsG g σ)[c]? = some q) : c < NC ∧ q = (g.1 c, ent g σ c) := by
  have hl : c < NC := by
    have := (List.getElem?_eq_some_iff.mp h).1
    simpa [cellsG] using this
  rw [cellsG_at g σ hl] at h
  exact ⟨hl, (Option.some.inj h).symm⟩
theorem shapes_lt {c : Nat} {x : Nat ⊕ (Nat × Nat)} (h : shapes[c]? = some x) : c < NC := (List.getElem?_eq_some_iff.mp h).1
theorem cellsG_set {g : Geo} {σ σ' : Mem} {c : Nat} {e : va_E} (hc : c < NC) (he : ent g σ' c = e) (ho : ∀ c', c' ≠ c → ent g σ' c' = ent g σ c') : (cellsG g σ).set c (g.1 c, e) = cellsG g σ' := by
  apply List.ext_getElem?
  intro i
  by_cases hi : i < NC
  · rw [cellsG_at g σ' hi]
    by_cases hic : i = c
    · subst hic
      rw [List.getElem?_set_self (by simpa [cellsG] using hi), he]
    · rw [List.getElem?_set_ne (Ne.symm hic), cellsG_at g σ hi, ho i hic]
  · rw [List.getElem?_eq_none (by simpa [cellsG] using hi), List.getElem?_eq_none (by simpa [cellsG] using hi)]
theorem cellsG_D {g : Geo} {σ : Mem} {A : Nat → Prop} (h : va_D (fun _ => True) (cellsG g σ)) (hA : ∀ k, k < NC → A (g.1 k)) : va_D A (cellsG g σ) := by
  refine h.weaken (fun k q hq _ => ?_)
  obtain ⟨h1, rfl⟩ := cellsG_inv g σ hq
  exact hA k h1
theorem cellsG_D' {g : Geo} {σ : Mem} {A : Nat → Prop} (h : va_D A (cellsG g σ)) : va_D (fun _ => True) (cellsG g σ) := h.weaken (fun _ _ _ _ => trivial)
theorem ent_o {g : Geo} {σ : Mem} {c ci : Nat} (h : shapes[c]? = some (.inl ci)) : ent g σ c = .inr (ci, flds g σ c ci) := by simp [ent, h]
theorem ent_a {g : Geo} {σ : Mem} {c t n : Nat} (h : shapes[c]? = some (.inr (t, n))) (ht : t ≠ 3) : ent g σ c = .inl (acls g t, n, .inl (fun j => iI (σ.1 c j))) := by simp [ent, h, acon, ht]
theorem ent_q {g : Geo} {σ : Mem} {c n : Nat} (h : shapes[c]? = some (.inr (3, n))) : ent g σ c = .inl (acls g 3, n, .inr (.inr (.inr (.inr (fun j => some (g.1 (imgId j))))))) := by simp [ent, h, acon]
theorem fval_ne {σ : Mem} {c c' ci k : Nat} {kz z : Int} (h : c' ≠ c) : fval (wr σ c kz z) c' ci k = fval σ c' ci k := by
  unfold fval
  rw [wr_nec σ h, wr_L]
theorem ent_ne {g : Geo} {σ : Mem} {c c' : Nat} {kz z : Int} (h : c' ≠ c) : ent g (wr σ c kz z) c' = ent g σ c' := by
  unfold ent
  split
  · congr 2
    unfold flds
    exact List.map_congr_left (fun k _ => by rw [fval_ne h])
  · congr 3
    unfold acon
    split
    · rfl
    · congr 1
      funext j
      rw [wr_nec σ h]
  · rfl
theorem flds_at {g : Geo} {σ : Mem} {c ci k : Nat} (h : k < nfld ci) : (flds g σ c ci)[k]? = some (tr g (fval σ c ci k)) := by
  simp [flds, List.getElem?_map, List.getElem?_range h]
theorem flds_len {g : Geo} {σ : Mem} {c ci : Nat} : (flds g σ c ci).length = nfld ci := by simp [flds]
theorem flds_set {g : Geo} {σ σ' : Mem} {c ci k : Nat} {v : Value} (hk : k < nfld ci) (he : tr g (fval σ' c ci k) = v) (ho : ∀ j, j ≠ k → fval σ' c ci j = fval σ c ci j) : (flds g σ c ci).set k v = flds g σ' c ci := by
  apply List.ext_getElem?
  intro i
  by_cases hi : i < nfld ci
  · rw [flds_at hi]
    by_cases hik : i = k
    · subst hik
      rw [List.getElem?_set_self (by rw [flds_len]; exact hi), he]
    · rw [List.getElem?_set_ne (Ne.symm hik), flds_at hi, ho i hik]
  · rw [List.getElem?_eq_none (by rw [List.length_set, flds_len]; omega), List.getElem?_eq_none (by rw [flds_len]; omega)]
theorem fval_nek {σ : Mem} {c ci k j : Nat} {z : Int} (h : j ≠ k) : fval (wr σ c k z) c ci j = fval σ c ci j := by
  unfold fval
  rw [wr_nek σ (show (j : Int) ≠ (k : Int) by omega), wr_L]
theorem tysG_at (g : Geo) {t : Nat} {ty : FieldType} (h : atys[t]? = some ty) : (tysG g)[t]? = some (acls g t, ty) := by
  match t, h with
  | 0, h => cases h; rfl
  | 1, h => cases h; rfl
  | 2, h => cases h; rfl
  | 3, h => cases h; rfl
  | n + 4, h => simp [atys] at h
/-! what is read only: links of nest mates, the String constants, two statics -/
def nestL : List (String × Nat × MethodName × String) := [(RX2, 79, yX7_has, "RopePost"), (RX4, 50, yX7_has, "RopePost"), (RX1, 31, yX7_has, "RopePost")]
def slen : List Nat := [4, 4, 3, 4, 5, 5, 5, 4]
def sbyt : List (List Int32) := [[112, 111, 108, 101], [114, 111, 112, 101], [98, 111, 121], [108, 111, 97, 100], [112, 108, 97, 105, 110], [97, 108, 105, 118, 101], [108, 101, 118, 101, 108], [108, 111, 110, 103]]
def sidx : List Nat := [53, 72, 80, 88, 166, 168, 170, 172]
def stxt : List String := ["pole", "rope", "boy", "load", "plain", "alive", "level", "long"]
def XA (g : Geo) (A : Nat → Prop) (U : State) (H : Heap) : Prop :=
  (∀ q ∈ nestL, va_Nw (.methodLinkNest q.1 q.2.1 q.2.2.1 q.2.2.2) U) ∧ (∀ i, i < 8 → vk_R RX3 (sidx.getD i 0) (stxt.getD i "") (g.1 (1000 + i)) U) ∧
  vk_S 8 slen sbyt (fun i => g.1 (1000 + i)) (fun i => g.1 (2000 + i)) A U H ∧ va_Z "java/lang/String" "COMPACT_STRINGS" "Z" (.int 1) A U H ∧ va_Zq "jdk/internal/util/Preconditions" "SIOOBE_FORMATTER" "Ljava/util/function/BiFunction;" A U H
theorem XA.to {g : Geo} {A B : Nat → Prop} {s U : State} {H0 H : Heap} {locs : List Loc} (h : XA g A s H0) (hW : s.WarmedH U.vm) (hS : va_S A H0 H locs) (hB : ∀ q, B q → A q) : XA g B U H := by
  obtain ⟨h1, h2, h3, h4, h5⟩ := h
  exact ⟨fun q hq => va_Nw.warmM hW (h1 q hq), fun i hi => vk_R.warm hW (h2 i hi), ((h3.kept hS.2.1).narrow hB).moved hW.alike, ((h4.kept hS.2.1).narrow hB).moved hW.alike, ((h5.kept hS.2.1).narrow hB).moved hW.alike⟩
theorem XA.blind {g : Geo} {A : Nat → Prop} {U U' : State} {H : Heap} (h : XA g A U H) (hv : U'.vm = U.vm) : XA g A U' H := by
  obtain ⟨h1, h2, h3, h4, h5⟩ := h
  have ha : U.vm.Alike U'.vm := by rw [hv]; exact Vm.Alike.refl _
  exact ⟨fun q hq => va_Nw.same rfl hv.symm (h1 q hq), fun i hi => vk_R.same hv (h2 i hi), h3.moved ha, h4.moved ha, h5.moved ha⟩
