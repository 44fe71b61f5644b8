/-- one call of each, one after the other: the same answer, and the two sides still belong together -/
def Two (N : Nat) (A : (Option Value → Mem → Prop) → Prop) (B : Mem → (Option Value → Mem → Prop) → Prop) : Prop := ∃ Ψ, A Ψ ∧ ∀ v τ, Ψ v τ → ∃ z : Int, v = some (.int (iI z)) ∧ ∃ Ψ2, B τ Ψ2 ∧ ∀ v2 ν, Ψ2 v2 ν → v2 = some (.int (iI z)) ∧ Sim (N + 1) ν
def Hi (σ τ : Mem) : Prop := ∀ c, 79 ≤ c → τ.1 c = σ.1 c
theorem two_d {N : Nat} {σ : Mem} {A : (Option Value → Mem → Prop) → Prop} {B : Mem → (Option Value → Mem → Prop) → Prop} {Ψ : Option Value → Mem → Prop} {Ψ2 : Mem → Option Value → Mem → Prop} (hA : A Ψ) (hB : ∀ τ, Hi σ τ → B τ (Ψ2 τ)) (hx : ∀ v τ, Ψ v τ → Hi σ τ ∧ ∃ z : Int, v = some (.int (iI z)) ∧ ∀ v2 ν, Ψ2 τ v2 ν → v2 = some (.int (iI z)) ∧ Sim (N + 1) ν) : Two N A B := by
  refine ⟨Ψ, hA, fun v τ hv => ?_⟩
  obtain ⟨h1, z, h2, h3⟩ := hx v τ hv
  exact ⟨z, h2, Ψ2 τ, hB τ h1, h3⟩
theorem Sim.succ {N : Nat} {σ : Mem} (h : Sim N σ) : Sim (N + 1) σ := by
  obtain ⟨P, Q, n, nr, nb, nl, mb, w, wt, dv, k, kp, L, f, t, hW⟩ := h
  exact ⟨P, Q, n, nr, nb, nl, mb, w, wt, dv, k, kp, L, f, t, hW.cg (Nat.le_succ _) (fun _ _ => rfl) hW.c76 hW.c78 (fun _ _ => rfl)⟩
/-- a question: what the class leaves, what the reference leaves -/
def Qc (σ : Mem) (z : Int) (v : Option Value) (τ : Mem) : Prop := v = some (.int (iI z)) ∧ (∀ c, ¬ (69 ≤ c ∧ c ≤ 78) → τ.1 c = σ.1 c) ∧ (∀ j, 0 ≤ τ.1 76 j ∧ τ.1 76 j ≤ 1000000) ∧ ∀ j, 0 ≤ τ.1 78 j ∧ τ.1 78 j ≤ 2000000
def Qm (τ : Mem) (z : Int) (v : Option Value) (ν : Mem) : Prop := v = some (.int (iI z)) ∧ ∀ c, ¬ (123 ≤ c ∧ c ≤ 128) → ν.1 c = τ.1 c
theorem two_q {N : Nat} {σ : Mem} {A : (Option Value → Mem → Prop) → Prop} {B : Mem → (Option Value → Mem → Prop) → Prop} {Ψ : Option Value → Mem → Prop} {Ψ2 : Mem → Option Value → Mem → Prop} {z : Int} (h : Sim N σ) (hA : A Ψ) (h1 : ∀ v τ, Ψ v τ → Qc σ z v τ) (hB : ∀ τ, Hi σ τ → B τ (Ψ2 τ)) (h2 : ∀ τ, Hi σ τ → ∀ v ν, Ψ2 τ v ν → Qm τ z v ν) : Two N A B := by
  refine two_d (σ := σ) hA hB (fun v τ hv => ?_)
  obtain ⟨a1, a2, a3, a4⟩ := h1 v τ hv
  have hH : Hi σ τ := fun c hc => a2 c (by omega)
  refine ⟨hH, z, a1, fun v2 ν h9 => ?_⟩
  obtain ⟨b1, b2⟩ := h2 τ hH v2 ν h9
  refine ⟨b1, ?_⟩
  obtain ⟨P, Q, n, nr, nb, nl, mb, w, wt, dv, k, kp, L, f, t, hW⟩ := h
  refine ⟨P, Q, n, nr, nb, nl, mb, w, wt, dv, k, kp, L, f, t, hW.cg (Nat.le_succ _) (fun c hc => ?_) ?_ ?_ (fun c hc => ?_)⟩
  · rw [b2 c (by omega), a2 c (by omega)]
  · rw [b2 76 (by omega)]; exact a3
  · rw [b2 78 (by omega)]; exact a4
  · rw [b2 c (by omega), a2 c (by omega)]
section
variable {N : Nat} {μ σ τ ν : Mem} {P Q n nr nb nl mb w wt dv k kp L : Nat} {f t : Nat → Nat} {z : Int} {v : Option Value}
theorem SimW.bits (h : SimW N μ σ P Q n nr nb nl mb w wt dv k kp L f t) : Bits σ w wt := by
  obtain ⟨d1, d2, d3, d4, d5, d6, d7, -⟩ := h.mok.2.1
  have e : 2 ^ nr ≤ 2 ^ 12 := Nat.pow_le_pow_right (by decide) h.mok.1.1.2.2.2.2.1
  exact ⟨d4.1, Nat.lt_of_lt_of_le d4.2 e, d5.1, Nat.lt_of_lt_of_le d5.2 e⟩
theorem SimW.dv2 (h : SimW N μ σ P Q n nr nb nl mb w wt dv k kp L f t) : σ.1 37 5 = dv ∧ dv < 4096 := by
  obtain ⟨d1, d2, d3, d4, d5, d6, d7, -⟩ := h.mok.2.1
  have e : 2 ^ nl ≤ 2 ^ 12 := Nat.pow_le_pow_right (by decide) (by have := h.mok.1.2.2.1.2; omega)
  exact ⟨d6.1, Nat.lt_of_lt_of_le d6.2 e⟩
theorem SimW.rnd (h : SimW N μ σ P Q n nr nb nl mb w wt dv k kp L f t) : RoundOk σ n nb nl := by
  obtain ⟨d1, d2, d3, d4, d5, d6, d7, d8, d9, d10, d11⟩ := h.mok.2.1
  refine ⟨fun l hl => ?_, fun b hb => ?_, h.c76⟩
  · rcases d11 l hl with q | q | q
    · exact Or.inl q.2.1
    · exact Or.inr ⟨q.2.2.1, q.2.2.2.1⟩
    · exact Or.inl q.2.1
  · have q := d9 b hb
    exact ⟨q.1, by omega⟩
/-- the reference's view of it, behind the class's call -/
theorem SimW.ref (h : SimW N σ σ P Q n nr nb nl mb w wt dv k kp L f t) (hH : Hi σ τ) : SimW N τ σ P Q n nr nb nl mb w wt dv k kp L f t := h.cg (Nat.le_refl _) (fun _ _ => rfl) h.c76 h.c78 (fun c hc => hH c (by omega))
theorem SimW.qI (h : SimW N μ σ P Q n nr nb nl mb w wt dv k kp L f t) (hv : AnsI z σ v τ) : Qc σ z v τ := by
  obtain ⟨rfl, rfl⟩ := hv
  exact ⟨rfl, fun _ _ => rfl, h.c76, h.c78⟩
theorem SimW.qM (h : SimW N μ σ P Q n nr nb nl mb w wt dv k kp L f t) (hv : AnsIP z (fun τ => Same sM σ τ) v τ) : Qc σ z v τ := by
  obtain ⟨rfl, hs⟩ := hv
  refine ⟨rfl, fun c hc => hs.1 c (by unfold sM; omega), ?_, ?_⟩
  · rw [hs.1 76 (by unfold sM; omega)]; exact h.c76
  · rw [hs.1 78 (by unfold sM; omega)]; exact h.c78
theorem qmI (hv : AnsI z τ v ν) : Qm τ z v ν := by
  obtain ⟨rfl, rfl⟩ := hv
  exact ⟨rfl, fun _ _ => rfl⟩
theorem qmS {S : Nat → Prop} (hS : ∀ c, S c → 123 ≤ c ∧ c ≤ 128) (hv : AnsIP z (fun ν => Same S τ ν) v ν) : Qm τ z v ν := by
  obtain ⟨rfl, hs⟩ := hv
  exact ⟨rfl, fun c hc => hs.1 c (fun q => hc (hS c q))⟩
/-- a new state of the class, and the reference's -/
theorem SimW.upd {υ : Mem} {mb2 w2 wt2 dv2 : Nat} (h : SimW N σ σ P Q n nr nb nl mb w wt dv k kp L f t) (hs : Same sN σ υ) (hM : MSame υ ν) (hMD : MDy ν υ nr nb nl) (hD : DynOk υ P n nr nb nl mb2 w2 wt2 dv2) (hmb : mb ≤ mb2) (hN : mb2 ≤ 99 * (N + 1)) : Sim (N + 1) ν := by
  have e : ∀ c, c ≤ 78 → ν.1 c = υ.1 c := fun c hc => hM.1 c (by omega)
  have hP := h.hP
  refine ⟨P, Q, n, nr, nb, nl, mb2, w2, wt2, dv2, k, kp, L, f, t, h.dyn hmb hN (fun c a b => ?_) (fun c hc => ?_) (fun k9 a b c d => ?_) (hD.cg (fun c a b => e c (by omega)) (e _ (by omega))) (hMD.cg (fun c a b => e c (by omega)) (fun _ _ _ => rfl) rfl)⟩
  · rw [e c a, hs.1 c (by unfold sN; omega)]
  · rw [hM.1 c (by omega), hs.1 c (by unfold sN; omega)]
  · rw [hM.2.1 k9 a b c d, hs.1 79 (by unfold sN; omega)]
end
theorem wN1 {σ : Mem} {c : Nat} {k z : Int} (h : 37 ≤ c ∧ c ≤ 45) : Same sN σ (wr σ c k z) := Same.rf.wr h
theorem wN2 {σ : Mem} {c d : Nat} {k z k2 z2 : Int} (h : 37 ≤ c ∧ c ≤ 45) (h2 : 37 ≤ d ∧ d ≤ 45) : Same sN σ (wr (wr σ c k z) d k2 z2) := (Same.rf.wr h).wr h2
theorem hiN {σ υ : Mem} (hs : Same sN σ υ) : Hi σ υ := fun c hc => hs.1 c (by unfold sN; omega)
theorem s_fault {N : Nat} {σ : Mem} (h : Sim N σ) : Two N (fun Ψ => Con yX7_fault cX7_fault 1 (some .int) 0 0 [.ref 0] σ (Ψ)) (fun τ Ψ => Con yX8_fault cX8_fault 1 (some .int) 0 0 [.ref 79] τ (Ψ)) := by
  obtain ⟨P, Q, n, nr, nb, nl, mb, w, wt, dv, k, kp, L, f, t, hW⟩ := id h
  refine two_q h (k_fault σ) (fun v τ hv => hW.qI hv) (fun τ hτ => m_fault τ) (fun τ hτ v ν hv => ?_)
  rw [show τ.1 79 37 = σ.1 1 3 from (hW.ref hτ).flt] at hv
  exact qmI hv
theorem s_told {N : Nat} {σ : Mem} (h : Sim N σ) (x : Int) (hx : inR x) : Two N (fun Ψ => Con yX7_told cX7_told 2 (some .int) 0 0 [.ref 0, .int (iI x)] σ (Ψ)) (fun τ Ψ => Con yX8_told cX8_told 2 (some .int) 1 22 [.ref 79, .int (iI x)] τ (Ψ)) := by
  obtain ⟨P, Q, n, nr, nb, nl, mb, w, wt, dv, k, kp, L, f, t, hW⟩ := id h
  refine two_q h (k_told σ P n nr nb nl w wt f t hW.mok.1 hW.pl hW.bits x hx) (fun v τ hv => hW.qI hv) (fun τ hτ => m_told τ σ P n nr nb nl mb w wt dv f t (hW.ref hτ).mok ?_ ?_ x hx) (fun τ hτ v ν hv => qmI hv)
  · rw [(hW.ref hτ).tx.1, hW.len]
  · rw [(hW.ref hτ).mbk.1, hW.bk.1]
theorem s_pole {N : Nat} {σ : Mem} (h : Sim N σ) (p x : Int) (hp : inR p) (hx : inR x) : Two N (fun Ψ => Con yX7_pole cX7_pole 3 (some .int) 1 24 [.ref 0, .int (iI p), .int (iI x)] σ (Ψ)) (fun τ Ψ => Con yX8_pole cX8_pole 3 (some .int) 2 46 [.ref 79, .int (iI p), .int (iI x)] τ (Ψ)) := by
  obtain ⟨P, Q, n, nr, nb, nl, mb, w, wt, dv, k, kp, L, f, t, hW⟩ := id h
  exact two_q h (k_pole σ P n nr nb nl w wt f t hW.mok.1 hW.pl hW.bits dv hW.dv2.1 hW.dv2.2 p x hp hx) (fun v τ hv => hW.qI hv) (fun τ hτ => m_pole τ σ P n nr nb nl mb w wt dv f t (hW.ref hτ).mok p x hp hx) (fun τ hτ v ν hv => qmI hv)
theorem s_rope {N : Nat} {σ : Mem} (h : Sim N σ) (p x : Int) (hp : inR p) (hx : inR x) : Two N (fun Ψ => Con yX7_rope cX7_rope 3 (some .int) 1 23 [.ref 0, .int (iI p), .int (iI x)] σ (Ψ)) (fun τ Ψ => Con yX8_rope cX8_rope 3 (some .int) 2 46 [.ref 79, .int (iI p), .int (iI x)] τ (Ψ)) := by
  obtain ⟨P, Q, n, nr, nb, nl, mb, w, wt, dv, k, kp, L, f, t, hW⟩ := id h
  exact two_q h (k_rope σ P n nr nb nl w wt f t hW.mok.1 hW.pl hW.bits dv hW.dv2.1 hW.dv2.2 p x hp hx) (fun v τ hv => hW.qI hv) (fun τ hτ => m_rope τ σ P n nr nb nl mb w wt dv f t (hW.ref hτ).mok p x hp hx) (fun τ hτ v ν hv => qmI hv)
theorem s_boy {N : Nat} {σ : Mem} (h : Sim N σ) (p x : Int) (hp : inR p) (hx : inR x) : Two N (fun Ψ => Con yX7_boy cX7_boy 3 (some .int) 1 24 [.ref 0, .int (iI p), .int (iI x)] σ (Ψ)) (fun τ Ψ => Con yX8_boy cX8_boy 3 (some .int) 2 46 [.ref 79, .int (iI p), .int (iI x)] τ (Ψ)) := by
  obtain ⟨P, Q, n, nr, nb, nl, mb, w, wt, dv, k, kp, L, f, t, hW⟩ := id h
  exact two_q h (k_boy σ P n nr nb nl w wt f t hW.mok.1 hW.pl hW.bits dv hW.dv2.1 hW.dv2.2 p x hp hx) (fun v τ hv => hW.qI hv) (fun τ hτ => m_boy τ σ P n nr nb nl mb w wt dv f t (hW.ref hτ).mok p x hp hx) (fun τ hτ v ν hv => qmI hv)
theorem s_load {N : Nat} {σ : Mem} (h : Sim N σ) (p x : Int) (hp : inR p) (hx : inR x) : Two N (fun Ψ => Con yX7_load cX7_load 3 (some .int) 1 21 [.ref 0, .int (iI p), .int (iI x)] σ (Ψ)) (fun τ Ψ => Con yX8_load cX8_load 3 (some .int) 2 46 [.ref 79, .int (iI p), .int (iI x)] τ (Ψ)) := by
  obtain ⟨P, Q, n, nr, nb, nl, mb, w, wt, dv, k, kp, L, f, t, hW⟩ := id h
  exact two_q h (k_load σ P n nr nb nl w wt f t hW.mok.1 hW.pl hW.bits dv hW.dv2.1 hW.dv2.2 p x hp hx) (fun v τ hv => hW.qI hv) (fun τ hτ => m_load τ σ P n nr nb nl mb w wt dv f t (hW.ref hτ).mok p x hp hx) (fun τ hτ v ν hv => qmI hv)
theorem s_ring {N : Nat} {σ : Mem} (h : Sim N σ) (i x : Int) (hi : inR i) (hx : inR x) : Two N (fun Ψ => Con yX7_ring cX7_ring 3 (some .int) 0 0 [.ref 0, .int (iI i), .int (iI x)] σ (Ψ)) (fun τ Ψ => Con yX8_ring cX8_ring 3 (some .int) 1 25 [.ref 79, .int (iI i), .int (iI x)] τ (Ψ)) := by
  obtain ⟨P, Q, n, nr, nb, nl, mb, w, wt, dv, k, kp, L, f, t, hW⟩ := id h
  exact two_q h (k_ring σ i x hi hx hW.mok.2.1.2.2.2.2.2.2.1.2) (fun v τ hv => hW.qI hv) (fun τ hτ => m_ring τ σ P n nr nb nl mb w wt dv f t (hW.ref hτ).mok i x hi hx) (fun τ hτ v ν hv => qmI hv)
theorem s_odds {N : Nat} {σ : Mem} (h : Sim N σ) (p q wd : Int) (hp : inR p) (hq : inR q) (hwd : inR wd) : Two N (fun Ψ => Con yX7_odds cX7_odds 4 (some .int) 3 66 [.ref 0, .int (iI p), .int (iI q), .int (iI wd)] σ (Ψ)) (fun τ Ψ => Con yX8_odds cX8_odds 4 (some .int) 3 68 [.ref 79, .int (iI p), .int (iI q), .int (iI wd)] τ (Ψ)) := by
  obtain ⟨P, Q, n, nr, nb, nl, mb, w, wt, dv, k, kp, L, f, t, hW⟩ := id h
  exact two_q h (k_odds σ P n nr nb nl w wt f t hW.mok.1 hW.pl hW.bits p q wd hp hq hwd) (fun v τ hv => hW.qI hv) (fun τ hτ => m_odds τ σ P n nr nb nl mb w wt dv f t (hW.ref hτ).mok p q wd hp hq hwd) (fun τ hτ v ν hv => qmI hv)
theorem s_far {N : Nat} {σ : Mem} (h : Sim N σ) (b p q : Int) (hb : inR b) (hp : inR p) (hq : inR q) : Two N (fun Ψ => Con yX7_far cX7_far 4 (some .int) 6 141 [.ref 0, .int (iI b), .int (iI p), .int (iI q)] σ (Ψ)) (fun τ Ψ => Con yX8_far cX8_far 4 (some .int) 5 122 [.ref 79, .int (iI b), .int (iI p), .int (iI q)] τ (Ψ)) := by
  obtain ⟨P, Q, n, nr, nb, nl, mb, w, wt, dv, k, kp, L, f, t, hW⟩ := id h
  exact two_q h (k_far σ P n nr nb nl w wt f t hW.mok.1 hW.pl hW.bits b p q hb hp hq) (fun v τ hv => hW.qM hv) (fun τ hτ => m_far τ σ P n nr nb nl w wt f t (hW.ref hτ).mok.rp b p q hb hp hq) (fun τ hτ v ν hv => qmS (fun c hc => by unfold s123 at hc; omega) hv)
theorem s_pays {N : Nat} {σ : Mem} (h : Sim N σ) (l b p q wd c : Int) (hl : inR l) (hb : inR b) (hp : inR p) (hq : inR q) (hwd : inR wd) (hc : inR c) : Two N (fun Ψ => Con yX7_pays cX7_pays 10 (some .int) 6 141 [.ref 0, .int (iI l), .int (iI b), .int (iI p), .int (iI q), .int (iI wd), .int (iI c)] σ (Ψ)) (fun τ Ψ => Con yX8_pays cX8_pays 9 (some .int) 5 122 [.ref 79, .int (iI l), .int (iI b), .int (iI p), .int (iI q), .int (iI wd), .int (iI c)] τ (Ψ)) := by
  obtain ⟨P, Q, n, nr, nb, nl, mb, w, wt, dv, k, kp, L, f, t, hW⟩ := id h
  exact two_q h (k_pays σ P n nr nb nl w wt f t hW.mok.1 hW.pl hW.bits l b p q wd c hl hb hp hq hwd hc) (fun v τ hv => hW.qM hv) (fun τ hτ => m_pays τ σ P n nr nb nl mb w wt dv f t (hW.ref hτ).mok l b p q wd c hl hb hp hq hwd hc) (fun τ hτ v ν hv => qmS (fun c hc => by unfold s123 at hc; omega) hv)
theorem s_who {N : Nat} {σ : Mem} (h : Sim N σ) (p m : Int) (hp : inR p) (hm : inR m) : Two N (fun Ψ => Con yX7_who cX7_who 5 (some .int) 6 144 [.ref 0, .int (iI p), .int (iI m)] σ (Ψ)) (fun τ Ψ => Con yX8_who cX8_who 5 (some .int) 7 173 [.ref 79, .int (iI p), .int (iI m)] τ (Ψ)) := by
  obtain ⟨P, Q, n, nr, nb, nl, mb, w, wt, dv, k, kp, L, f, t, hW⟩ := id h
  exact two_q h (k_who σ P n nr nb nl w wt f t hW.mok.1 hW.pl hW.bits k hW.bk p m hp hm) (fun v τ hv => hW.qM hv) (fun τ hτ => m_who τ σ P n nr nb nl w wt f t (hW.ref hτ).mok.rp k hW.bk (hW.ref hτ).mbk p m hp hm) (fun τ hτ v ν hv => qmS (fun c hc => by unfold s123 at hc; omega) hv)
theorem s_judge {N : Nat} {σ : Mem} (h : Sim N σ) : Two N (fun Ψ => Con yX7_judge cX7_judge 2 (some .int) 7 166 [.ref 0] σ (Ψ)) (fun τ Ψ => Con yX8_judge cX8_judge 5 (some .int) 6 147 [.ref 79] τ (Ψ)) := by
  obtain ⟨P, Q, n, nr, nb, nl, mb, w, wt, dv, k, kp, L, f, t, hW⟩ := id h
  exact two_q h (k_judge σ P n nr nb nl w wt f t hW.mok.1 hW.pl hW.bits k hW.bk) (fun v τ hv => hW.qM hv) (fun τ hτ => m_judge τ σ P n nr nb nl w wt f t (hW.ref hτ).mok.rp k hW.bk (hW.ref hτ).mbk) (fun τ hτ v ν hv => qmS (fun c hc => by unfold s123 at hc; omega) hv)
theorem s_newRope {N : Nat} {σ : Mem} (h : Sim N σ) (x : Int) (hx : inR x) : Two N (fun Ψ => Con yX7_newRope cX7_newRope 3 (some .int) 4 94 [.ref 0, .int (iI x)] σ (Ψ)) (fun τ Ψ => Con yX8_newRope cX8_newRope 8 (some .int) 3 68 [.ref 79, .int (iI x)] τ (Ψ)) := by
  obtain ⟨P, Q, n, nr, nb, nl, mb, w, wt, dv, k, kp, L, f, t, hW⟩ := id h
  exact two_q h (k_newRope σ P n nr nb nl w wt f t hW.mok.1 hW.pl hW.bits x hx) (fun v τ hv => hW.qM hv) (fun τ hτ => m_newRope τ σ P n nr nb nl mb w wt dv f t (hW.ref hτ).mok x hx) (fun τ hτ v ν hv => qmS (fun c hc => by unfold s128 at hc; omega) hv)
theorem s_round {N : Nat} {σ : Mem} (h : Sim N σ) (b x : Int) (hb : inR b) (hx : inR x) : Two N (fun Ψ => Con yX7_round cX7_round 4 (some .int) 6 140 [.ref 0, .int (iI b), .int (iI x)] σ (Ψ)) (fun τ Ψ => Con yX8_round cX8_round 4 (some .int) 5 124 [.ref 79, .int (iI b), .int (iI x)] τ (Ψ)) := by
  obtain ⟨P, Q, n, nr, nb, nl, mb, w, wt, dv, k, kp, L, f, t, hW⟩ := id h
  refine two_q h (k_round σ P n nr nb nl w wt f t hW.mok.1 hW.pl hW.bits dv hW.dv2.1 hW.dv2.2 hW.rnd b x hb hx) (fun v τ hv => ?_) (fun τ hτ => m_round τ σ P n nr nb nl mb w wt dv f t (hW.ref hτ).mok hW.rnd (2 ^ nl) rfl b x hb hx) (fun τ hτ v ν hv => qmS (fun c hc => by unfold s124 at hc; omega) hv)
  obtain ⟨e, hs, h76⟩ := hv
  refine ⟨e, fun c hc => hs.1 c (by unfold sR; omega), h76, ?_⟩
  rw [hs.1 78 (by unfold sR; omega)]; exact hW.c78
theorem s_dealt {N : Nat} {σ : Mem} (h : Sim N σ) (x : Int) (hx : inR x) : Two N (fun Ψ => Con yX7_dealt cX7_dealt 5 (some .int) 6 140 [.ref 0, .int (iI x)] σ (Ψ)) (fun τ Ψ => Con yX8_dealt cX8_dealt 3 (some .int) 6 149 [.ref 79, .int (iI x)] τ (Ψ)) := by
  obtain ⟨P, Q, n, nr, nb, nl, mb, w, wt, dv, k, kp, L, f, t, hW⟩ := id h
  refine two_q h (k_dealt σ P n nr nb nl w wt f t hW.mok.1 hW.pl hW.bits dv hW.dv2.1 hW.dv2.2 hW.rnd hW.c78 x hx) (fun v τ hv => ?_) (fun τ hτ => m_dealt τ σ P n nr nb nl mb w wt dv f t (hW.ref hτ).mok hW.rnd x hx) (fun τ hτ v ν hv => qmS (fun c hc => by unfold sDl at hc; omega) hv)
  obtain ⟨e, hs, h76, h78⟩ := hv
  exact ⟨e, fun c hc => hs.1 c (by unfold sD sR; omega), h76, h78⟩
theorem fst_bit (T : Nat) : ∀ n, ∃ a, a ≤ n ∧ (∀ i, i < a → T.testBit i = false) ∧ (a < n → T.testBit a = true) := by
  intro n
  induction n with
  | zero => exact ⟨0, Nat.le_refl _, fun i hi => absurd hi (Nat.not_lt_zero _), fun hi => absurd hi (Nat.not_lt_zero _)⟩
  | succ n ih =>
    obtain ⟨a, h1, h2, h3⟩ := ih
    by_cases e : a < n
    · exact ⟨a, by omega, h2, fun _ => h3 e⟩
    · have ea : a = n := by omega
      subst ea
      by_cases e2 : T.testBit a = true
      · exact ⟨a, by omega, h2, fun _ => e2⟩
      · refine ⟨a + 1, Nat.le_refl _, fun i hi => ?_, fun hi => absurd hi (Nat.lt_irrefl _)⟩
        by_cases e3 : i = a
        · subst e3; simpa using e2
        · exact h2 i (by omega)
theorem s_kept {N : Nat} {σ : Mem} (h : Sim N σ) (x : Int) (hx : inR x) : Two N (fun Ψ => Con yX7_kept cX7_kept 5 (some .int) 3 71 [.ref 0, .int (iI x)] σ (Ψ)) (fun τ Ψ => Con yX8_kept cX8_kept 6 (some .int) 3 73 [.ref 79, .int (iI x)] τ (Ψ)) := by
  obtain ⟨P, Q, n, nr, nb, nl, mb, w, wt, dv, k, kp, L, f, t, hW⟩ := id h
  obtain ⟨a, a1, a2, a3⟩ := fst_bit x.toNat n
  have hPO := hW.mok.1
  have hwn := hW.mok.2.1.2.2.2.1.2
  refine two_d (σ := σ) (k_kept σ P n nr nb nl w wt f t hW.mok.1 hW.pl hW.bits (2 ^ n) rfl x hx) (fun τ hτ => m_kept τ σ P n nr nb nl w wt f t (hW.ref hτ).mok.rp hwn (2 ^ n) rfl x hx a (fun _ _ => ⟨a1, a2, a3⟩)) (fun v τ hv => ?_)
  obtain ⟨z, rfl, rfl, hz⟩ := hv
  refine ⟨fun _ _ => rfl, z, rfl, fun v2 ν h2 => ?_⟩
  obtain ⟨rfl, rfl⟩ := h2
  refine ⟨?_, h.succ⟩
  have e : z = if ¬ (0 ≤ x ∧ x < ((2 ^ n : Nat) : Int)) then -1000000001 else kfR f t nr w x.toNat a (2 ^ nr) := by
    split
    next q => rw [if_pos q] at hz; exact hz
    next q =>
      rw [if_neg q] at hz
      exact kept_eq hPO.1.2.2.2.2.1 hPO.1.2.2.1 hwn (by omega) a1 a2 a3 hz
  rw [e]
theorem s_take {N : Nat} {σ : Mem} (h : Sim N σ) (b l : Int) (hb : inR b) (hl : inR l) : Two N (fun Ψ => Con yX7_take cX7_take 4 (some .int) 1 24 [.ref 0, .int (iI b), .int (iI l)] σ (Ψ)) (fun τ Ψ => Con yX8_take cX8_take 3 (some .int) 2 46 [.ref 79, .int (iI b), .int (iI l)] τ (Ψ)) := by
  obtain ⟨P, Q, n, nr, nb, nl, mb, w, wt, dv, k, kp, L, f, t, hW⟩ := id h
  refine two_d (σ := σ) (k_take σ P n nr nb nl w wt f t hW.mok.1 hW.pl hW.bits b l hb hl) (fun τ hτ => m_take τ σ P n nr nb nl mb w wt dv f t (hW.ref hτ).mok b l hb hl) (fun v τ hv => ?_)
  try dsimp only at hv
  split at hv
  · rename_i c1
    obtain ⟨rfl, rfl⟩ := hv
    refine ⟨fun _ _ => rfl, _, rfl, fun v2 ν h2 => ?_⟩
    try dsimp only at h2
    rw [if_pos c1] at h2
    obtain ⟨rfl, rfl⟩ := h2
    exact ⟨rfl, h.succ⟩
  · rename_i c1
    split at hv
    · rename_i c2
      obtain ⟨rfl, rfl⟩ := hv
      refine ⟨fun _ _ => rfl, _, rfl, fun v2 ν h2 => ?_⟩
      try dsimp only at h2
      rw [if_neg c1, if_pos c2] at h2
      obtain ⟨rfl, rfl⟩ := h2
      exact ⟨rfl, h.succ⟩
    · rename_i c2
      obtain ⟨rfl, rfl⟩ := hv
      have hs := (wN2 (by decide) (by decide) : Same sN σ (wr (wr σ 42 l (-1)) 43 l b))
      refine ⟨hiN hs, _, rfl, fun v2 ν h2 => ?_⟩
      try dsimp only at h2
      rw [if_neg c1, if_neg c2] at h2
      obtain ⟨rfl, h3, h4, h5⟩ := h2
      refine ⟨rfl, ?_⟩
      exact hW.upd hs h3 h4 h5 (Nat.le_refl _) (by have := hW.mbN; omega)
theorem s_lay {N : Nat} {σ : Mem} (h : Sim N σ) (b l : Int) (hb : inR b) (hl : inR l) : Two N (fun Ψ => Con yX7_lay cX7_lay 3 (some .int) 1 24 [.ref 0, .int (iI b), .int (iI l)] σ (Ψ)) (fun τ Ψ => Con yX8_lay cX8_lay 3 (some .int) 2 46 [.ref 79, .int (iI b), .int (iI l)] τ (Ψ)) := by
  obtain ⟨P, Q, n, nr, nb, nl, mb, w, wt, dv, k, kp, L, f, t, hW⟩ := id h
  refine two_d (σ := σ) (k_lay σ P n nr nb nl w wt f t hW.mok.1 hW.pl hW.bits b l hb hl) (fun τ hτ => m_lay τ σ P n nr nb nl mb w wt dv f t (hW.ref hτ).mok b l hb hl) (fun v τ hv => ?_)
  try dsimp only at hv
  split at hv
  · rename_i c1
    obtain ⟨rfl, rfl⟩ := hv
    refine ⟨fun _ _ => rfl, _, rfl, fun v2 ν h2 => ?_⟩
    try dsimp only at h2
    rw [if_pos c1] at h2
    obtain ⟨rfl, rfl⟩ := h2
    exact ⟨rfl, h.succ⟩
  · rename_i c1
    split at hv
    · rename_i c2
      obtain ⟨rfl, rfl⟩ := hv
      refine ⟨fun _ _ => rfl, _, rfl, fun v2 ν h2 => ?_⟩
      try dsimp only at h2
      rw [if_neg c1, if_pos c2] at h2
      obtain ⟨rfl, rfl⟩ := h2
      exact ⟨rfl, h.succ⟩
    · rename_i c2
      obtain ⟨rfl, rfl⟩ := hv
      have hs := (wN2 (by decide) (by decide) : Same sN σ (wr (wr σ 42 l (σ.1 39 b)) 43 l (-1)))
      refine ⟨hiN hs, _, rfl, fun v2 ν h2 => ?_⟩
      try dsimp only at h2
      rw [if_neg c1, if_neg c2] at h2
      obtain ⟨rfl, h3, h4, h5⟩ := h2
      refine ⟨rfl, ?_⟩
      exact hW.upd hs h3 h4 h5 (Nat.le_refl _) (by have := hW.mbN; omega)
theorem s_cut {N : Nat} {σ : Mem} (h : Sim N σ) (r : Int) (hr : inR r) : Two N (fun Ψ => Con yX7_cut cX7_cut 2 (some .int) 1 23 [.ref 0, .int (iI r)] σ (Ψ)) (fun τ Ψ => Con yX8_cut cX8_cut 2 (some .int) 2 46 [.ref 79, .int (iI r)] τ (Ψ)) := by
  obtain ⟨P, Q, n, nr, nb, nl, mb, w, wt, dv, k, kp, L, f, t, hW⟩ := id h
  refine two_d (σ := σ) (k_cut σ P n nr nb nl w wt f t hW.mok.1 hW.pl hW.bits r hr) (fun τ hτ => m_cut τ σ P n nr nb nl mb w wt dv f t (hW.ref hτ).mok r hr) (fun v τ hv => ?_)
  try dsimp only at hv
  split at hv
  · rename_i c1
    obtain ⟨rfl, rfl⟩ := hv
    refine ⟨fun _ _ => rfl, _, rfl, fun v2 ν h2 => ?_⟩
    try dsimp only at h2
    rw [if_pos c1] at h2
    obtain ⟨rfl, rfl⟩ := h2
    exact ⟨rfl, h.succ⟩
  · rename_i c1
    split at hv
    · rename_i c2
      obtain ⟨rfl, rfl⟩ := hv
      refine ⟨fun _ _ => rfl, _, rfl, fun v2 ν h2 => ?_⟩
      try dsimp only at h2
      rw [if_neg c1, if_pos c2] at h2
      obtain ⟨rfl, rfl⟩ := h2
      exact ⟨rfl, h.succ⟩
    · rename_i c2
      obtain ⟨rfl, rfl⟩ := hv
      have hs := (wN1 (by decide) : Same sN σ (wr σ 37 3 (andn w (2 ^ r.toNat) : Nat)))
      refine ⟨hiN hs, _, rfl, fun v2 ν h2 => ?_⟩
      try dsimp only at h2
      rw [if_neg c1, if_neg c2] at h2
      obtain ⟨rfl, h3, h4, h5⟩ := h2
      refine ⟨rfl, ?_⟩
      exact hW.upd hs h3 h4 h5 (Nat.le_refl _) (by have := hW.mbN; omega)
theorem s_splice {N : Nat} {σ : Mem} (h : Sim N σ) (r : Int) (hr : inR r) : Two N (fun Ψ => Con yX7_splice cX7_splice 2 (some .int) 1 21 [.ref 0, .int (iI r)] σ (Ψ)) (fun τ Ψ => Con yX8_splice cX8_splice 2 (some .int) 2 46 [.ref 79, .int (iI r)] τ (Ψ)) := by
  obtain ⟨P, Q, n, nr, nb, nl, mb, w, wt, dv, k, kp, L, f, t, hW⟩ := id h
  refine two_d (σ := σ) (k_splice σ P n nr nb nl w wt f t hW.mok.1 hW.pl hW.bits r hr) (fun τ hτ => m_splice τ σ P n nr nb nl mb w wt dv f t (hW.ref hτ).mok r hr) (fun v τ hv => ?_)
  try dsimp only at hv
  split at hv
  · rename_i c1
    obtain ⟨rfl, rfl⟩ := hv
    refine ⟨fun _ _ => rfl, _, rfl, fun v2 ν h2 => ?_⟩
    try dsimp only at h2
    rw [if_pos c1] at h2
    obtain ⟨rfl, rfl⟩ := h2
    exact ⟨rfl, h.succ⟩
  · rename_i c1
    split at hv
    · rename_i c2
      obtain ⟨rfl, rfl⟩ := hv
      refine ⟨fun _ _ => rfl, _, rfl, fun v2 ν h2 => ?_⟩
      try dsimp only at h2
      rw [if_neg c1, if_pos c2] at h2
      obtain ⟨rfl, rfl⟩ := h2
      exact ⟨rfl, h.succ⟩
    · rename_i c2
      obtain ⟨rfl, rfl⟩ := hv
      have hs := (wN2 (by decide) (by decide) : Same sN σ (wr (wr σ 37 3 (w ||| 2 ^ r.toNat : Nat)) 38 r 0))
      refine ⟨hiN hs, _, rfl, fun v2 ν h2 => ?_⟩
      try dsimp only at h2
      rw [if_neg c1, if_neg c2] at h2
      obtain ⟨rfl, h3, h4, h5⟩ := h2
      refine ⟨rfl, ?_⟩
      exact hW.upd hs h3 h4 h5 (Nat.le_refl _) (by have := hW.mbN; omega)
theorem s_wet {N : Nat} {σ : Mem} (h : Sim N σ) (r z : Int) (hr : inR r) (hz : inR z) (hz1 : z = 0 ∨ z = 1) : Two N (fun Ψ => Con yX7_wet cX7_wet 4 (some .int) 1 22 [.ref 0, .int (iI r), .int (iI z)] σ (Ψ)) (fun τ Ψ => Con yX8_wet cX8_wet 4 (some .int) 2 46 [.ref 79, .int (iI r), .int (iI z)] τ (Ψ)) := by
  obtain ⟨P, Q, n, nr, nb, nl, mb, w, wt, dv, k, kp, L, f, t, hW⟩ := id h
  refine two_d (σ := σ) (k_wet σ P n nr nb nl w wt f t hW.mok.1 hW.pl hW.bits r z hr hz) (fun τ hτ => m_wet τ σ P n nr nb nl mb w wt dv f t (hW.ref hτ).mok r z hr hz1) (fun v τ hv => ?_)
  try dsimp only at hv
  split at hv
  · rename_i c1
    obtain ⟨rfl, rfl⟩ := hv
    refine ⟨fun _ _ => rfl, _, rfl, fun v2 ν h2 => ?_⟩
    try dsimp only at h2
    rw [if_pos c1] at h2
    obtain ⟨rfl, rfl⟩ := h2
    exact ⟨rfl, h.succ⟩
  · rename_i c1
    obtain ⟨rfl, rfl⟩ := hv
    have hs := (by unfold wetM; exact wN1 (by decide) : Same sN σ (wetM σ r.toNat wt z))
    refine ⟨hiN hs, _, rfl, fun v2 ν h2 => ?_⟩
    try dsimp only at h2
    rw [if_neg c1] at h2
    obtain ⟨rfl, h3, h4, h5⟩ := h2
    refine ⟨rfl, ?_⟩
    obtain ⟨wt2, h6⟩ := h5
    exact hW.upd hs h3 h4 h6 (Nat.le_refl _) (by have := hW.mbN; omega)
theorem s_seed {N : Nat} {σ : Mem} (h : Sim N σ) (z : Int) (hz : inR z) : Two N (fun Ψ => Con yX7_seed cX7_seed 3 (some .int) 0 0 [.ref 0, .int (iI z)] σ (Ψ)) (fun τ Ψ => Con yX8_seed cX8_seed 3 (some .int) 0 0 [.ref 79, .int (iI z)] τ (Ψ)) := by
  obtain ⟨P, Q, n, nr, nb, nl, mb, w, wt, dv, k, kp, L, f, t, hW⟩ := id h
  refine two_d (σ := σ) (k_seed σ z hz) (fun τ hτ => m_seed τ σ P n nr nb nl mb w wt dv f t (hW.ref hτ).mok z hz) (fun v τ hv => ?_)
  try dsimp only at hv
  split at hv
  · rename_i c1
    obtain ⟨rfl, rfl⟩ := hv
    refine ⟨fun _ _ => rfl, _, rfl, fun v2 ν h2 => ?_⟩
    try dsimp only at h2
    rw [if_pos c1] at h2
    obtain ⟨rfl, rfl⟩ := h2
    exact ⟨rfl, h.succ⟩
  · rename_i c1
    obtain ⟨rfl, rfl⟩ := hv
    have hs := (wN1 (by decide) : Same sN σ (wr σ 37 2 z))
    refine ⟨hiN hs, _, rfl, fun v2 ν h2 => ?_⟩
    try dsimp only at h2
    rw [if_neg c1] at h2
    obtain ⟨rfl, h3, h4, h5⟩ := h2
    refine ⟨rfl, ?_⟩
    exact hW.upd hs h3 h4 h5 (Nat.le_refl _) (by have := hW.mbN; omega)
theorem s_pass {N : Nat} {σ : Mem} (h : Sim N σ) (x : Int) (hx : inR x) (hN : N ≤ 9000) : Two N (fun Ψ => Con yX7_pass cX7_pass 3 (some .int) 5 112 [.ref 0, .int (iI x)] σ (Ψ)) (fun τ Ψ => Con yX8_pass cX8_pass 3 (some .int) 4 90 [.ref 79, .int (iI x)] τ (Ψ)) := by
  obtain ⟨P, Q, n, nr, nb, nl, mb, w, wt, dv, k, kp, L, f, t, hW⟩ := id h
  have hmb : mb ≤ 900000 := by have := hW.mbN; omega
  refine two_d (σ := σ) (k_pass σ P n nr nb nl mb w wt dv f t hW.mok.1 hW.pl hW.mok.2.1 hmb x hx) (fun τ hτ => m_pass τ σ P n nr nb nl mb w wt dv f t (hW.ref hτ).mok hmb x hx) (fun v τ hv => ?_)
  try dsimp only at hv
  split at hv
  · rename_i c1
    obtain ⟨rfl, rfl⟩ := hv
    refine ⟨fun _ _ => rfl, _, rfl, fun v2 ν h2 => ?_⟩
    try dsimp only at h2
    rw [if_pos c1] at h2
    obtain ⟨rfl, rfl⟩ := h2
    exact ⟨rfl, h.succ⟩
  · rename_i c1
    obtain ⟨rfl, rfl⟩ := hv
    have hs := (passM_ok hW.mok.1 hW.mok.2.1 x.toNat).2
    refine ⟨hiN hs, _, rfl, fun v2 ν h2 => ?_⟩
    try dsimp only at h2
    rw [if_neg c1] at h2
    obtain ⟨rfl, h3, h4⟩ := h2
    refine ⟨rfl, ?_⟩
    obtain ⟨⟨w2, dv2, h6⟩, -⟩ := passM_ok hW.mok.1 hW.mok.2.1 x.toNat
    exact hW.upd hs h3 h4 h6 (by omega) (by have := hW.mbN; omega)
theorem s_storm {N : Nat} {σ : Mem} (h : Sim N σ) (q : Int) (hq : inR q) : Two N (fun Ψ => Con yX7_storm cX7_storm 4 (some .int) 1 23 [.ref 0, .int (iI q)] σ (Ψ)) (fun τ Ψ => Con yX8_storm cX8_storm 4 (some .int) 1 25 [.ref 79, .int (iI q)] τ (Ψ)) := by
  obtain ⟨P, Q, n, nr, nb, nl, mb, w, wt, dv, k, kp, L, f, t, hW⟩ := id h
  refine two_d (σ := σ) (k_storm σ P n nr nb nl mb w wt dv f t hW.mok.1 hW.pl hW.mok.2.1 q hq) (fun τ hτ => m_storm τ σ P n nr nb nl mb w wt dv f t (hW.ref hτ).mok q hq) (fun v τ hv => ?_)
  try dsimp only at hv
  split at hv
  · rename_i c1
    obtain ⟨rfl, rfl⟩ := hv
    refine ⟨fun _ _ => rfl, _, rfl, fun v2 ν h2 => ?_⟩
    try dsimp only at h2
    rw [if_pos c1] at h2
    obtain ⟨rfl, rfl⟩ := h2
    exact ⟨rfl, h.succ⟩
  · rename_i c1
    obtain ⟨⟨w2, g1⟩, g2⟩ := stL1_ok (q := q) hW.hP hW.mok.2.1 nr (Nat.le_refl _)
    obtain ⟨⟨wt2, g3⟩, g4⟩ := stL2_ok hW.hP g1 nr (Nat.le_refl _)
    obtain ⟨rfl, rfl⟩ := hv
    have hs := (g2.tr g4 : Same sN σ (stormM σ nb nr q))
    refine ⟨hiN hs, _, rfl, fun v2 ν h2 => ?_⟩
    try dsimp only at h2
    rw [if_neg c1] at h2
    obtain ⟨rfl, h3, h4⟩ := h2
    refine ⟨rfl, ?_⟩
    exact hW.upd hs h3 h4 g3 (Nat.le_refl _) (by have := hW.mbN; omega)
theorem s_go {N : Nat} {σ : Mem} (h : Sim N σ) (b r : Int) (hb : inR b) (hr : inR r) : Two N (fun Ψ => Con yX7_go cX7_go 5 (some .int) 4 93 [.ref 0, .int (iI b), .int (iI r)] σ (Ψ)) (fun τ Ψ => Con yX8_go cX8_go 5 (some .int) 3 70 [.ref 79, .int (iI b), .int (iI r)] τ (Ψ)) := by
  obtain ⟨P, Q, n, nr, nb, nl, mb, w, wt, dv, k, kp, L, f, t, hW⟩ := id h
  refine two_d (σ := σ) (k_go σ P n nr nb nl w wt f t hW.mok.1 hW.pl hW.bits b r hb hr hW.mok.2.1.2.2.2.2.2.2.1.1) (fun τ hτ => m_go τ σ P n nr nb nl mb w wt dv f t (hW.ref hτ).mok b r hb hr) (fun v τ hv => ?_)
  try dsimp only at hv
  split at hv
  · rename_i c1
    obtain ⟨rfl, rfl⟩ := hv
    refine ⟨fun _ _ => rfl, _, rfl, fun v2 ν h2 => ?_⟩
    try dsimp only at h2
    rw [if_pos c1] at h2
    obtain ⟨rfl, rfl⟩ := h2
    exact ⟨rfl, h.succ⟩
  · rename_i c1
    split at hv
    · rename_i c2
      obtain ⟨rfl, rfl⟩ := hv
      refine ⟨fun _ _ => rfl, _, rfl, fun v2 ν h2 => ?_⟩
      try dsimp only at h2
      rw [if_neg c1, if_pos c2] at h2
      obtain ⟨rfl, rfl⟩ := h2
      exact ⟨rfl, h.succ⟩
    · rename_i c2
      obtain ⟨rfl, rfl⟩ := hv
      have hs := (goM_same : Same sN σ (goM σ b r (othE (σ.1 (P + 5) r) (σ.1 (P + 6) r) (σ.1 39 b)) (minB σ P nl w wt b r)))
      refine ⟨hiN hs, _, rfl, fun v2 ν h2 => ?_⟩
      try dsimp only at h2
      rw [if_neg c1, if_neg c2] at h2
      obtain ⟨rfl, h3, h4⟩ := h2
      refine ⟨rfl, ?_⟩
      have hPO := hW.mok.1
      have q := Decidable.not_not.mp c1
      obtain ⟨b, rfl⟩ := Int.eq_ofNat_of_zero_le q.1.1
      obtain ⟨r, rfl⟩ := Int.eq_ofNat_of_zero_le q.2.1
      have hbn : b < nb := by omega
      have hrn : r < nr := by omega
      have hfr := hPO.1.2.2.2.2.2 r hrn
      have hmm := hPO.min (w := w) (wt := wt) (s := carS σ nl (b : Int)) (dry := 0) hrn hbn
      have hmb : minB σ P nl w wt (b : Int) (r : Int) = minZ σ P nl w wt r b (carS σ nl (b : Int)) 0 := rfl
      have c4 : minB σ P nl w wt (b : Int) (r : Int) ≠ -1 := fun y => c2 (Or.inr (Or.inr (Or.inr y)))
      have c3 : othE (σ.1 (P + 5) (r : Int)) (σ.1 (P + 6) (r : Int)) (σ.1 39 (b : Int)) ≠ -1 := fun y => c2 (Or.inr (Or.inr (Or.inl y)))
      have c5 : fstI (fun i => σ.1 40 i) (r : Int) nb = -1 := Decidable.not_not.mp (fun y => c2 (Or.inr (Or.inl y)))
      have hw := minB_w c4
      have ho : 0 ≤ othE (σ.1 (P + 5) (r : Int)) (σ.1 (P + 6) (r : Int)) (σ.1 39 (b : Int)) ∧ othE (σ.1 (P + 5) (r : Int)) (σ.1 (P + 6) (r : Int)) (σ.1 39 (b : Int)) < n := by
        rcases othE_P c3 with e | e <;> rw [e] <;> omega
      exact hW.upd hs h3 h4 (go_ok hPO hW.mok.2.1 hbn hrn c5 ho.1 ho.2 (by omega) (by omega) hw) (Nat.le_refl _) (by have := hW.mbN; omega)
