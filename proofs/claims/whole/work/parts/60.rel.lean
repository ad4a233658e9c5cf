/-! THE RELATION: what both sides hold, as plain data: tellings, prices, text of the grades, sheets, finding -/
abbrev TT : Type := Nat × (Nat → Nat) × (Nat → Int32) × (Nat → Int32) × Int32
abbrev PS : Type := TT × (Nat → Int32) × (Nat × (Nat → Int32)) × ((Nat → Int32) × (Nat → Nat) × (Nat → Int32)) × Int32
def cel (T : TT) : (Nat → Int32) × (Nat → Int32) := lyF (fun _ => 0) (fun _ => 0) T.2.1 T.2.2.1 T.2.2.2.1 T.2.2.2.2 T.1
def cc (T : TT) : Nat → Int32 := (cel T).1
def oo (T : TT) : Nat → Int32 := (cel T).2
def la (T : TT) : Int32 := if T.1 = 0 then nI 0 else T.2.2.2.1 (T.1 - 1)
def TOK (T : TT) : Prop := T.1 ≤ 100 ∧ ∀ i, i < T.1 → T.2.1 i < 48 ∧ (T.2.2.1 i = -1 ∨ ∃ v, v ≤ 100 ∧ T.2.2.1 i = nI v)
theorem lyF_cg {c0 o0 c1 o1 : Nat → Int32} {tc : Nat → Nat} {tv tt tv' tt' : Nat → Int32} {un : Int32} (hc : ∀ k, 48 ≤ k → c0 k = c1 k) (ho : ∀ k, 48 ≤ k → o0 k = o1 k) : ∀ n, (∀ i, i < n → tv i = tv' i ∧ tt i = tt' i) → lyF c0 o0 tc tv tt un n = lyF c1 o1 tc tv' tt' un n
  | 0, _ => by
    have e : ∀ {f g : Nat → Int32}, (∀ k, 48 ≤ k → f k = g k) → fil (-1) f 48 = fil (-1) g 48 := by
      intro f g h
      funext k
      unfold fil
      by_cases q : k < 48
      · rw [if_pos q, if_pos q]
      · rw [if_neg q, if_neg q]; exact h k (by omega)
    unfold lyF
    rw [e hc, e ho]
  | n + 1, h => by
    have ih := lyF_cg (tc := tc) (un := un) hc ho n (fun i hi => h i (by omega))
    unfold lyF
    rw [ih, (h n (by omega)).1, (h n (by omega)).2]
theorem lyF_MK {c0 o0 : Nat → Int32} {tc : Nat → Nat} {tv tt : Nat → Int32} {un : Int32} : ∀ n, (∀ i, i < n → tv i = -1 ∨ ∃ v, v ≤ 100 ∧ tv i = nI v) → MK (lyF c0 o0 tc tv tt un n).1
  | 0, _ => fun k hk => Or.inl (by show fil (-1) c0 48 k = -1; unfold fil; rw [if_pos hk])
  | n + 1, h => by
    have ih := lyF_MK (c0 := c0) (o0 := o0) (tc := tc) (tt := tt) (un := un) n (fun i hi => h i (by omega))
    unfold lyF
    split
    · exact ih
    · intro k hk
      dsimp only
      by_cases e : k = tc n
      · subst e
        rcases h n (by omega) with q | ⟨v, q1, q2⟩
        · exact Or.inl (by rw [va_up_s]; exact q)
        · exact Or.inr ⟨v, q1, by rw [va_up_s]; exact q2⟩
      · rw [va_up_n _ _ e]
        exact ih k hk
theorem lyF_out {c0 o0 : Nat → Int32} {tc : Nat → Nat} {tv tt : Nat → Int32} {un : Int32} {k : Nat} (hk : 48 ≤ k) : ∀ n, (∀ i, i < n → tc i < 48) → (lyF c0 o0 tc tv tt un n).1 k = c0 k ∧ (lyF c0 o0 tc tv tt un n).2 k = o0 k
  | 0, _ => ⟨by show fil (-1) c0 48 k = _; unfold fil; rw [if_neg (by omega)], by show fil (-1) o0 48 k = _; unfold fil; rw [if_neg (by omega)]⟩
  | n + 1, h => by
    have ih := lyF_out (c0 := c0) (o0 := o0) (tv := tv) (tt := tt) (un := un) hk n (fun i hi => h i (by omega))
    have := h n (by omega)
    unfold lyF
    split
    · exact ih
    · show va_up _ _ _ k = _ ∧ va_up _ _ _ k = _
      rw [va_up_n _ _ (by omega), va_up_n _ _ (by omega)]
      exact ih
theorem cc_MK {T : TT} (h : TOK T) : MK (cc T) := lyF_MK _ (fun i hi => (h.2 i hi).2)
theorem cc_out {T : TT} (h : TOK T) {k : Nat} (hk : 48 ≤ k) : cc T k = 0 ∧ oo T k = 0 := lyF_out hk _ (fun i hi => (h.2 i hi).1)
/-- one more mark: the worst doubt with it, over what -/
def Wk (c : Nat → Int32) (k : Nat) : Int := (wsC (hnd (va_up c k 0))).1
def Bk (c : Nat → Int32) (k : Nat) : Int := 12 * whC (va_up c k 0)
def bst (op : Nat → Bool) (W B : Nat → Int) : Nat → Nat
  | 0 => 48
  | i + 1 => if op i = true ∧ (bst op W B i = 48 ∨ W i * B (bst op W B i) < W (bst op W B i) * B i) then i else bst op W B i
def opR (c : Nat → Int32) (k : Nat) : Bool := decide (c k = -1 ∧ slb (hnd c) (k / 4) ≠ 4 ∧ slb (hnd c) (k / 4) = lb (hnd c) (k % 4))
def opC (c : Nat → Int32) (k : Nat) : Bool := opR c k && decide (∀ s, s < k / 4 → hnd c s ≠ hnd c (k / 4))
def nxC (c : Nat → Int32) : Nat := bst (opC c) (Wk c) (Bk c) 48
def StOK (c : Nat → Int32) (I : ab_I) (J : ab_J) : Prop := I 29 0 = nI 0 ∨ (I 29 0 = nI 1 ∧ ((nxC c = 48 ∧ I 29 1 = -1) ∨ (nxC c < 48 ∧ I 29 1 = nI (nxC c) ∧ J 29 2 = zL (Wk c (nxC c)) ∧ J 29 3 = zL (Bk c (nxC c)))))
def WsOK (c : Nat → Int32) (I : ab_I) (J : ab_J) : Prop := I 5 16 = nI 0 ∨ (I 5 16 = nI 1 ∧ I 5 14 = (wsC (hnd c)).2.1 ∧ I 5 15 = (wsC (hnd c)).2.2 ∧ J 5 13 = zL (wsC (hnd c)).1)
def SetOK (c o : Nat → Int32) (I : ab_I) (J : ab_J) : Prop := I 0 10 = nI 0 ∧ TieOK 5 c I J ∧ WeiOK 5 c J ∧ I 47 = o ∧ WsOK c I J ∧ StOK c I J
def LCk (z : Nat × (Nat → Int32)) (I : ab_I) : Prop := z.1 ≤ 60 ∧ BY z.1 z.2 ∧ I 39 3 = nI z.1 ∧ (∀ i, i < z.1 → I 40 i = z.2 i) ∧ LawsOK (prs z.1 z.2) I
def SCk (z : (Nat → Int32) × (Nat → Nat) × (Nat → Int32)) (I : ab_I) : Prop := (∀ s, s < 4 → z.2.1 s ≤ 48 ∧ I 45 s = z.1 s ∧ I 46 s = nI (z.2.1 s)) ∧ ∀ k, k < 192 → I 44 k = z.2.2 k
def TCk (T : TT) (I : ab_I) : Prop := I 1 3 = nI T.1 ∧ (∀ i, i < T.1 → I 2 i = nI (T.2.1 i) ∧ I 3 i = T.2.2.1 i ∧ I 4 i = T.2.2.2.1 i) ∧ I 1 4 = la T ∧ I 1 5 = T.2.2.2.2
def CB (σ : PS) (I : ab_I) : Prop := TOK σ.1 ∧ TCk σ.1 I ∧ (∀ m, m < 4 → I 48 m = σ.2.1 m) ∧ LCk σ.2.2.1 I ∧ SCk σ.2.2.2.1 I ∧ I 0 11 = σ.2.2.2.2
def Z6 (I : ab_I) : Prop := ∀ k, 48 ≤ k → I 6 k = 0 ∧ I 47 k = 0 ∧ I 18 k = 0
def RC (σ : PS) (I : ab_I) (J : ab_J) : Prop := CB σ I ∧ Z6 I ∧ (I 0 10 = nI 1 ∨ SetOK (cc σ.1) (oo σ.1) I J)
/-- what a question leaves as it was -/
def CF (I : ab_I) (J : ab_J) (I' : ab_I) (J' : ab_J) : Prop := (∀ k, (1 ≤ k ∧ k ≤ 4) ∨ (39 ≤ k ∧ k ≤ 46) ∨ 48 ≤ k → I' k = I k) ∧ (∀ j, j ≠ 10 → I' 0 j = I 0 j) ∧ ∀ k, 49 ≤ k → J' k = J k
theorem CF_refl {I : ab_I} {J : ab_J} : CF I J I J := ⟨fun _ _ => rfl, fun _ _ => rfl, fun _ _ => rfl⟩
theorem CF_trans {I I1 I2 : ab_I} {J J1 J2 : ab_J} (h : CF I J I1 J1) (h' : CF I1 J1 I2 J2) : CF I J I2 J2 := ⟨fun k q => (h'.1 k q).trans (h.1 k q), fun j q => (h'.2.1 j q).trans (h.2.1 j q), fun k q => (h'.2.2 k q).trans (h.2.2 k q)⟩
theorem CB_cf {σ : PS} {I I' : ab_I} {J J' : ab_J} (h : CB σ I) (f : CF I J I' J') : CB σ I' := by
  obtain ⟨f1, f2, -⟩ := f
  obtain ⟨h1, ⟨a1, a2, a3, a4⟩, h3, ⟨b1, b2, b3, b4, b5, b6, b7, b8⟩, ⟨c1, c2⟩, h6⟩ := h
  have e1 := f1 1 (by omega)
  have e2 := f1 2 (by omega)
  have e3 := f1 3 (by omega)
  have e4 := f1 4 (by omega)
  have e39 := f1 39 (by omega)
  have e40 := f1 40 (by omega)
  have e41 := f1 41 (by omega)
  have e42 := f1 42 (by omega)
  have e44 := f1 44 (by omega)
  have e45 := f1 45 (by omega)
  have e46 := f1 46 (by omega)
  have e48 := f1 48 (by omega)
  refine ⟨h1, ⟨?_, ?_, ?_, ?_⟩, ?_, ⟨b1, b2, ?_, ?_, b5, ?_, ?_, ?_⟩, ⟨?_, ?_⟩, ?_⟩
  · rw [e1]; exact a1
  · rw [e2, e3, e4]; exact a2
  · rw [e1]; exact a3
  · rw [e1]; exact a4
  · rw [e48]; exact h3
  · rw [e39]; exact b3
  · rw [e40]; exact b4
  · rw [e39]; exact b6
  · rw [e41, e42]; exact b7
  · rw [e39]; exact b8
  · rw [e45, e46]; exact c1
  · rw [e44]; exact c2
  · rw [f2 11 (by decide)]; exact h6
section REL
variable {I : ab_I} {J : ab_J} {Q : Option Value → ab_I → ab_J → Prop} {σ : PS}
theorem st110 (h : RC σ I J) : ∃ I' J', (RC σ I' J' ∧ SetOK (cc σ.1) (oo σ.1) I' J' ∧ CF I J I' J') ∧ ∀ Q : Option Value → ab_I → ab_J → Prop, Cal 110 [.ref 0] I J Q ↔ Q none I' J' := by
  obtain ⟨hB, hZ, hS⟩ := id h
  obtain ⟨hT, ⟨t1, t2, t3, t4⟩, -⟩ := id hB
  rcases hS with hS | hS
  · have e : lyF (I 6) (I 47) σ.1.2.1 (I 3) (I 4) (I 1 5) σ.1.1 = cel σ.1 := by
      rw [t4]
      exact lyF_cg (fun k hk => (hZ k hk).1) (fun k hk => (hZ k hk).2.1) _ (fun i hi => ⟨(t2 i hi).2.1, (t2 i hi).2.2⟩)
    have hcal : ∀ Q : Option Value → ab_I → ab_J → Prop, Cal 110 [.ref 0] I J Q ↔ Q none (stI (cc σ.1) (oo σ.1) I) (weJ 5 (cc σ.1) (tiJ 5 (cc σ.1) J)) := by
      intro Q
      have := c110b (I := I) (J := J) (Q := Q) (n := σ.1.1) (tc := σ.1.2.1) (by rw [hS]; decide) t1 hT.1 (fun i hi => ⟨(hT.2 i hi).1, (t2 i hi).1⟩)
      rw [e] at this
      exact this
    have ht := tie_ok (B := 5) (c := cc σ.1) (I := va_up (va_up (va_up (va_up I 0 (va_up (I 0) 10 (nI 0))) 6 (cc σ.1)) 29 (va_up (I 29) 0 (nI 0))) 47 (oo σ.1)) (J := J) (by simp (disch := omega) only [up_ne, va_up_s])
    obtain ⟨w1, w2⟩ := wei_ok (cc_MK hT) ht
    have hs : SetOK (cc σ.1) (oo σ.1) (stI (cc σ.1) (oo σ.1) I) (weJ 5 (cc σ.1) (tiJ 5 (cc σ.1) J)) := by
      refine ⟨?_, w1, w2, ?_, Or.inl ?_, Or.inl ?_⟩
      · unfold stI tiI; simp (disch := omega) only [up_ne, va_up_s]
      · unfold stI tiI; simp (disch := omega) only [up_ne, va_up_s]
      · unfold stI tiI; simp (disch := omega) only [up_ne, va_up_s]
      · unfold stI tiI; simp (disch := omega) only [up_ne, va_up_s]
    have hf : CF I J (stI (cc σ.1) (oo σ.1) I) (weJ 5 (cc σ.1) (tiJ 5 (cc σ.1) J)) := by
      refine ⟨fun k hk => ?_, fun j hj => ?_, fun k hk => ?_⟩
      · unfold stI tiI; simp (disch := omega) only [up_ne]
      · unfold stI tiI; simp (disch := omega) only [up_ne, va_up_s]
      · unfold weJ tiJ; simp (disch := omega) only [up_ne]
    refine ⟨_, _, ⟨⟨CB_cf hB hf, ?_, Or.inr hs⟩, hs, hf⟩, hcal⟩
    intro k hk
    refine ⟨?_, ?_, ?_⟩
    · rw [hs.2.1.1]; exact (cc_out hT hk).1
    · rw [hs.2.2.2.1]; exact (cc_out hT hk).2
    · unfold stI tiI; simp (disch := omega) only [up_ne]; exact (hZ k hk).2.2
  · exact ⟨I, J, ⟨h, hS, CF_refl⟩, fun Q => c110a hS.1⟩
end REL
/-! the reference's side -/
def SRk (z : (Nat → Int32) × (Nat → Nat) × (Nat → Int32)) (I : ab_I) : Prop := (∀ s, s < 4 → z.2.1 s ≤ 48 ∧ I 70 s = bI (decide (z.1 s ≠ -1)) ∧ (z.1 s ≠ -1 → I 71 s = z.1 s ∧ I 72 s = nI (z.2.1 s))) ∧ ∀ k, k < 192 → I 73 k = z.2.2 k
def TRk (T : TT) (I : ab_I) : Prop := I 49 0 = nI T.1 ∧ (∀ i, i < T.1 → I 50 i = nI (T.2.1 i / 4) ∧ I 51 i = nI (T.2.1 i % 4) ∧ I 52 i = T.2.2.1 i ∧ I 53 i = T.2.2.2.1 i) ∧ I 49 5 = T.2.2.2.2
def LRk (z : Nat × (Nat → Int32)) (I : ab_I) : Prop := z.1 ≤ 60 ∧ BY z.1 z.2 ∧ I 49 18 = nI z.1 ∧ ∀ i, i < z.1 → I 64 i = z.2 i
def RRb (σ : PS) (I : ab_I) : Prop := TOK σ.1 ∧ TRk σ.1 I ∧ (∀ m, m < 4 → I 54 m = σ.2.1 m) ∧ LRk σ.2.2.1 I ∧ SRk σ.2.2.2.1 I ∧ I 49 40 = σ.2.2.2.2
def Z55 (I : ab_I) : Prop := ∀ k, 48 ≤ k → I 55 k = 0 ∧ I 56 k = 0
def RR (σ : PS) (I : ab_I) : Prop := RRb σ I ∧ Z55 I
def Laid (c o : Nat → Int32) (I : ab_I) : Prop := I 55 = c ∧ I 56 = o ∧ ∀ k, k < 16 → I 57 k = enc (LB (hnd c) k)
def QF (I : ab_I) (J : ab_J) (I' : ab_I) (J' : ab_J) : Prop := (∀ k, (k < 55 ∧ k ≠ 49) ∨ k = 64 ∨ (70 ≤ k ∧ k ≤ 73) → I' k = I k) ∧ (∀ j, j = 0 ∨ j = 5 ∨ j = 18 ∨ j = 40 → I' 49 j = I 49 j) ∧ ∀ k, k < 49 → J' k = J k
theorem QF_refl {I : ab_I} {J : ab_J} : QF I J I J := ⟨fun _ _ => rfl, fun _ _ => rfl, fun _ _ => rfl⟩
theorem QF_trans {I I1 I2 : ab_I} {J J1 J2 : ab_J} (h : QF I J I1 J1) (h' : QF I1 J1 I2 J2) : QF I J I2 J2 := ⟨fun k q => (h'.1 k q).trans (h.1 k q), fun j q => (h'.2.1 j q).trans (h.2.1 j q), fun k q => (h'.2.2 k q).trans (h.2.2 k q)⟩
theorem RRb_qf {σ : PS} {I I' : ab_I} {J J' : ab_J} (h : RRb σ I) (f : QF I J I' J') : RRb σ I' := by
  obtain ⟨f1, f2, -⟩ := f
  obtain ⟨h1, ⟨a1, a2, a3⟩, h3, ⟨b1, b2, b3, b4⟩, ⟨c1, c2⟩, h6⟩ := h
  have e50 := f1 50 (by omega)
  have e51 := f1 51 (by omega)
  have e52 := f1 52 (by omega)
  have e53 := f1 53 (by omega)
  have e54 := f1 54 (by omega)
  have e64 := f1 64 (by omega)
  have e70 := f1 70 (by omega)
  have e71 := f1 71 (by omega)
  have e72 := f1 72 (by omega)
  have e73 := f1 73 (by omega)
  refine ⟨h1, ⟨?_, ?_, ?_⟩, ?_, ⟨b1, b2, ?_, ?_⟩, ⟨?_, ?_⟩, ?_⟩
  · rw [f2 0 (by omega)]; exact a1
  · rw [e50, e51, e52, e53]; exact a2
  · rw [f2 5 (by omega)]; exact a3
  · rw [e54]; exact h3
  · rw [f2 18 (by omega)]; exact b3
  · rw [e64]; exact b4
  · rw [e70, e71, e72]; exact c1
  · rw [e73]; exact c2
  · rw [f2 40 (by omega)]; exact h6
theorem Laid_z {σ : PS} {I : ab_I} (hT : TOK σ.1) (h : Laid (cc σ.1) (oo σ.1) I) : Z55 I := by
  intro k hk
  rw [h.1, h.2.1]
  exact cc_out hT hk
/-- laid, and in the relation -/
def RLd (σ : PS) (I : ab_I) : Prop := RRb σ I ∧ Laid (cc σ.1) (oo σ.1) I
theorem RL_RR {σ : PS} {I : ab_I} (h : RLd σ I) : RR σ I := ⟨h.1, Laid_z h.1.1 h.2⟩
section REL2
variable {I : ab_I} {J : ab_J} {Q : Option Value → ab_I → ab_J → Prop} {σ : PS}
theorem st138 (h : RR σ I) : ∃ I', (RLd σ I' ∧ QF I J I' J) ∧ ∀ Q : Option Value → ab_I → ab_J → Prop, Cal 138 [.ref 49] I J Q ↔ Q none I' J := by
  obtain ⟨hB, hZ⟩ := id h
  obtain ⟨hT, ⟨t1, t2, t3⟩, -⟩ := id hB
  have e : lyF (I 55) (I 56) σ.1.2.1 (I 52) (I 53) (I 49 5) σ.1.1 = cel σ.1 := by
    rw [t3]
    exact lyF_cg (fun k hk => (hZ k hk).1) (fun k hk => (hZ k hk).2) _ (fun i hi => ⟨(t2 i hi).2.2.1, (t2 i hi).2.2.2⟩)
  have hcal : ∀ Q : Option Value → ab_I → ab_J → Prop, Cal 138 [.ref 49] I J Q ↔ Q none (va_up (va_up (va_up I 55 (cc σ.1)) 56 (oo σ.1)) 57 (fll (fun k => enc (LB (hnd (cc σ.1)) k)) (I 57) 16)) J := by
    intro Q
    have := c138 (I := I) (J := J) (Q := Q) (n := σ.1.1) (tc := σ.1.2.1) t1 hT.1 (fun i hi => ⟨(hT.2 i hi).1, (t2 i hi).1, (t2 i hi).2.1⟩)
    rw [e] at this
    exact this
  have hf : QF I J (va_up (va_up (va_up I 55 (cc σ.1)) 56 (oo σ.1)) 57 (fll (fun k => enc (LB (hnd (cc σ.1)) k)) (I 57) 16)) J := by
    refine ⟨fun k hk => ?_, fun j hj => ?_, fun _ _ => rfl⟩
    · simp (disch := omega) only [up_ne]
    · simp (disch := omega) only [up_ne]
  refine ⟨_, ⟨⟨RRb_qf hB hf, ?_, ?_, fun k hk => ?_⟩, hf⟩, hcal⟩
  · simp (disch := omega) only [up_ne, va_up_s]
  · simp (disch := omega) only [up_ne, va_up_s]
  · rw [va_up_s]; exact fll_lt hk
end REL2
/-- class's state by the reference's questions, and the other way -/
theorem RC_qf {σ : PS} {I I' : ab_I} {J J' : ab_J} (h : RC σ I J) (f : ∀ k, k < 49 → I' k = I k ∧ J' k = J k) : RC σ I' J' := by
  have eI : ∀ k, k < 49 → I' k = I k := fun k hk => (f k hk).1
  have eJ : ∀ k, k < 49 → J' k = J k := fun k hk => (f k hk).2
  obtain ⟨⟨h1, ⟨a1, a2, a3, a4⟩, h3, ⟨b1, b2, b3, b4, b5, b6, b7, b8⟩, ⟨c1, c2⟩, h6⟩, hZ, hS⟩ := h
  refine ⟨⟨h1, ⟨?_, ?_, ?_, ?_⟩, ?_, ⟨b1, b2, ?_, ?_, b5, ?_, ?_, ?_⟩, ⟨?_, ?_⟩, ?_⟩, ?_, ?_⟩
  · rw [eI 1 (by omega)]; exact a1
  · rw [eI 2 (by omega), eI 3 (by omega), eI 4 (by omega)]; exact a2
  · rw [eI 1 (by omega)]; exact a3
  · rw [eI 1 (by omega)]; exact a4
  · rw [eI 48 (by omega)]; exact h3
  · rw [eI 39 (by omega)]; exact b3
  · rw [eI 40 (by omega)]; exact b4
  · rw [eI 39 (by omega)]; exact b6
  · rw [eI 41 (by omega), eI 42 (by omega)]; exact b7
  · rw [eI 39 (by omega)]; exact b8
  · rw [eI 45 (by omega), eI 46 (by omega)]; exact c1
  · rw [eI 44 (by omega)]; exact c2
  · rw [eI 0 (by omega)]; exact h6
  · unfold Z6; rw [eI 6 (by omega), eI 47 (by omega), eI 18 (by omega)]; exact hZ
  · unfold SetOK TieOK WeiOK WsOK StOK at hS ⊢
    rw [eI 0 (by omega), eI (5 + 1) (by omega), eI (5 + 2) (by omega), eJ (5 + 3) (by omega), eI (5 + 4) (by omega), eI (5 + 5) (by omega), eI (5 + 6) (by omega), eI 5 (by omega), eJ (5 + 8) (by omega), eJ 5 (by omega), eJ (5 + 10) (by omega), eJ (5 + 11) (by omega), eI 47 (by omega), eI 29 (by omega), eJ 29 (by omega)]
    exact hS
theorem RR_cf {σ : PS} {I I' : ab_I} (h : RR σ I) (f : ∀ k, 49 ≤ k → I' k = I k) : RR σ I' := by
  obtain ⟨⟨h1, ⟨a1, a2, a3⟩, h3, ⟨b1, b2, b3, b4⟩, ⟨c1, c2⟩, h6⟩, hZ⟩ := h
  refine ⟨⟨h1, ⟨?_, ?_, ?_⟩, ?_, ⟨b1, b2, ?_, ?_⟩, ⟨?_, ?_⟩, ?_⟩, ?_⟩
  · rw [f 49 (by omega)]; exact a1
  · rw [f 50 (by omega), f 51 (by omega), f 52 (by omega), f 53 (by omega)]; exact a2
  · rw [f 49 (by omega)]; exact a3
  · rw [f 54 (by omega)]; exact h3
  · rw [f 49 (by omega)]; exact b3
  · rw [f 64 (by omega)]; exact b4
  · rw [f 70 (by omega), f 71 (by omega), f 72 (by omega)]; exact c1
  · rw [f 73 (by omega)]; exact c2
  · rw [f 49 (by omega)]; exact h6
  · unfold Z55; rw [f 55 (by omega), f 56 (by omega)]; exact hZ
