/-! SOUND, second: the cells -/
theorem ab_look {β : Type} : ∀ {l : List (Nat × β)} {j : Nat} {v : β}, l.lookup j = some v → (j, v) ∈ l
  | [], j, v, h => by cases h
  | (a, b) :: l, j, v, h => by
    rw [List.lookup_cons] at h
    split at h
    · rename_i q
      cases h
      rw [eq_of_beq q]
      exact List.mem_cons_self
    · exact List.mem_cons_of_mem _ (ab_look h)
theorem ab_lk_of {o : Nat} (ho : o < 12) : ab_lk o = true := List.all_eq_true.mp ab_lks o (List.mem_range.mpr ho)
theorem ab_fdW {o j c f q : Nat} (ho : o < 12) (h : ab_fd o j = some (c, f, q)) : ∃ r : vw_C, vwCl[c]? = some r ∧ f < r.2.2 ∧ Cond.fieldLink (ab_cn.getD o "") j r.1 (r.2.1 f).2.1 (r.2.1 f).2.2.1 ∈ ab_wd ∧ (r.2.1 f).1 = r.1 := by
  have h1 := ab_lk_of ho
  simp only [ab_lk, Bool.and_eq_true] at h1
  have h2 := List.all_eq_true.mp h1.1.1.1.1 _ (ab_look h)
  dsimp only at h2
  split at h2
  · rename_i r hr
    simp only [Bool.and_eq_true, decide_eq_true_eq] at h2
    exact ⟨r, hr, h2.1.1, ab_at_in h2.1.2, h2.2⟩
  · cases h2
theorem ab_mdW {o j t nest q : Nat} (ho : o < 12) (h : ab_md o j = some (t, nest, q)) : (if t = 1000 then ab_at q (.methodLink (ab_cn.getD o "") j objectInit) else if t = 1001 then ab_at q (.methodLink (ab_cn.getD o "") j arraycopyName) else if t = 1002 then ab_at q (.methodLink (ab_cn.getD o "") j Lib.MathLoose.abs_long.x) else if t = 1003 then ab_at q (.methodLink (ab_cn.getD o "") j Lib.Math.min.name) else (decide (t < 203) && (if nest = 0 then ab_at q (.methodLink (ab_cn.getD o "") j (ab_row t).1) else decide (nest = 1 ∧ lw_tbl[q]? = some (.methodLinkNest (ab_cn.getD o "") j (ab_row t).1 "MarkedHands"))))) = true := by
  have h1 := ab_lk_of ho
  simp only [ab_lk, Bool.and_eq_true] at h1
  exact List.all_eq_true.mp h1.1.1.1.2 _ (ab_look h)
theorem ab_ndW {o j c q : Nat} (ho : o < 12) (h : ab_nd o j = some (c, q)) : ∃ r : vw_C, vwCl[c]? = some r ∧ Cond.classLink (ab_cn.getD o "") j r.1 ∈ ab_wd := by
  have h1 := ab_lk_of ho
  simp only [ab_lk, Bool.and_eq_true] at h1
  have h2 := List.all_eq_true.mp h1.1.1.2 _ (ab_look h)
  dsimp only at h2
  split at h2
  · rename_i r hr
    exact ⟨r, hr, ab_at_in h2⟩
  · cases h2
theorem ab_kdW {o j q : Nat} {v : Int32} (ho : o < 12) (h : ab_kd o j = some (v, q)) : Cond.constant (ab_cn.getD o "") j v ∈ ab_wd := by
  have h1 := ab_lk_of ho
  simp only [ab_lk, Bool.and_eq_true] at h1
  exact ab_at_in (List.all_eq_true.mp h1.1.2 _ (ab_look h))
theorem ab_kDW {o j q : Nat} {v : Int64} (ho : o < 12) (h : ab_kD o j = some (v, q)) : Cond.constantLong (ab_cn.getD o "") j v ∈ ab_wd := by
  have h1 := ab_lk_of ho
  simp only [ab_lk, Bool.and_eq_true] at h1
  exact ab_at_in (List.all_eq_true.mp h1.2 _ (ab_look h))
def ab_rs (t : FieldType) : Bool := match t with
  | .array _ => true
  | .object _ => true
  | _ => false
/-- how many fields -/
def ab_nf (c : Nat) : Nat := (ab_cls.getD c []).length
/-- a field's kind, its type, whether it is final -/
def ab_k3 (c : Nat) (T : u_T) (ty : Nat → FieldType) (j : Nat) : Bool := match ab_fk c j with
  | 0 => decide (ty j = .int) && !(T j).2.2.2
  | 1 => decide (ty j = .boolean) && !(T j).2.2.2
  | 2 => decide (ty j = .long) && !(T j).2.2.2
  | 3 => ab_rs (ty j) && (T j).2.2.2
  | _ => false
theorem ab_cf : ∀ (c : Nat) (r : vw_C), vwCl[c]? = some r → ∃ ty : Nat → FieldType, (∀ k, k < r.2.2 → parseFieldDescriptor (r.2.1 k).2.2.1 = some (ty k)) ∧ (∀ a, a < r.2.2 → ∀ b, b < r.2.2 → a ≠ b → (r.2.1 a).2.1 ≠ (r.2.1 b).2.1) ∧ r.2.2 = ab_nf c ∧ (∀ j, j < r.2.2 → ab_k3 c r.2.1 ty j = true) ∧ r.1 = ab_cn.getD c ""
  | 0, r, h => by cases h; exact ⟨tyX0, tyX0_ok, nmX0, by decide +kernel, by decide +kernel, rfl⟩
  | 1, r, h => by cases h; exact ⟨tyX1, tyX1_ok, nmX1, by decide +kernel, by decide +kernel, rfl⟩
  | 2, r, h => by cases h; exact ⟨tyX2, tyX2_ok, nmX2, by decide +kernel, by decide +kernel, rfl⟩
  | 3, r, h => by cases h; exact ⟨tyX3, tyX3_ok, nmX3, by decide +kernel, by decide +kernel, rfl⟩
  | 4, r, h => by cases h; exact ⟨tyX4, tyX4_ok, nmX4, by decide +kernel, by decide +kernel, rfl⟩
  | 5, r, h => by cases h; exact ⟨tyX5, tyX5_ok, nmX5, by decide +kernel, by decide +kernel, rfl⟩
  | 6, r, h => by cases h; exact ⟨tyX6, tyX6_ok, nmX6, by decide +kernel, by decide +kernel, rfl⟩
  | 7, r, h => by cases h; exact ⟨tyX7, tyX7_ok, nmX7, by decide +kernel, by decide +kernel, rfl⟩
  | 8, r, h => by cases h; exact ⟨tyX8, tyX8_ok, nmX8, by decide +kernel, by decide +kernel, rfl⟩
  | c + 9, r, h => by simp [vwCl] at h
theorem ab_cw {c : Nat} {r : vw_C} (h : vwCl[c]? = some r) : (∀ w ∈ u_ws r.1 r.2.1 r.2.2, w ∈ ab_wd) ∧ Cond.instantiable r.1 r.2.2 ∈ ab_wd ∧ Cond.initialized r.1 ∈ ab_wd := by
  have h1 := List.all_eq_true.mp ab_cks r (List.mem_of_getElem? h)
  simp only [ab_ck, Bool.and_eq_true] at h1
  exact ⟨fun w hw => ab_in_in (List.all_eq_true.mp h1.1.1 w hw), ab_in_in h1.1.2, ab_in_in h1.2⟩
theorem ab_oth {w : Cond} (h : w ∈ ([.instanceMethod objectInit, .code objectInit ⟨#[0xb1]⟩ 1 none, .native arraycopyName, .static arraycopyName, .initialized "java/lang/System", .static Lib.MathLoose.abs_long.x, .initialized "java/lang/Math", .code Lib.MathLoose.abs_long.x Lib.MathLoose.abs_long.code 2 (some .long), .static Lib.Math.min.name, .code Lib.Math.min.name Lib.Math.min.code 2 (some .int), .arrayClass .int, .arrayClass .long, .arrayClass .boolean] : List Cond)) : w ∈ ab_wd := ab_in_in (List.all_eq_true.mp ab_others w h)
theorem ab_maxs : ([.methodLink (ab_cn.getD 1 "") 118 Lib.Math.max.name, .static Lib.Math.max.name, .code Lib.Math.max.name Lib.Math.max.code 2 (some .int)] : List Cond).all ab_in = true := by decide +kernel
theorem ab_maxw {w : Cond} (h : w ∈ ([.methodLink (ab_cn.getD 1 "") 118 Lib.Math.max.name, .static Lib.Math.max.name, .code Lib.Math.max.name Lib.Math.max.code 2 (some .int)] : List Cond)) : w ∈ ab_wd := ab_in_in (List.all_eq_true.mp ab_maxs w h)
/-- the machine's cells for the small machine's state: their classes, their addresses -/
abbrev ab_C3 : Type := ClassId × ClassId × ClassId
def ab_fv (c : Nat) (ad : Nat → Nat) (z : ab_S) (k j : Nat) : Value := if ab_fk c j = 2 then .long (z.2.1 k j) else if ab_fk c j = 3 then va_rf ((ab_rf z.2.2.1 k j).map ad) else .int (z.1 k j)
def ab_fs (c : Nat) (ad : Nat → Nat) (z : ab_S) (k : Nat) : List Value := (List.range (ab_nf c)).map (ab_fv c ad z k)
def ab_ce (cs : ab_C3) (ad : Nat → Nat) (z : ab_S) (k : Nat) : va_E := if (ab_ly k).1 = 0 then .inr ((ab_ly k).2, ab_fs (ab_ly k).2 ad z k) else if (ab_ly k).1 = 2 then .inl (cs.2.1, (ab_ly k).2, .inr (.inl (z.2.1 k))) else .inl (if (ab_ly k).1 = 3 then cs.2.2 else cs.1, (ab_ly k).2, .inl (z.1 k))
def ab_wl (cs : ab_C3) (ad : Nat → Nat) (z : ab_S) : va_W := (List.range z.2.2.2).map (fun k => (ad k, ab_ce cs ad z k))
def ab_ty3 (cs : ab_C3) : List (ClassId × FieldType) := [(cs.1, .int), (cs.2.1, .long), (cs.2.2, .boolean)]
theorem ab_wl_at {cs : ab_C3} {ad : Nat → Nat} {z : ab_S} {k : Nat} (hk : k < z.2.2.2) : (ab_wl cs ad z)[k]? = some (ad k, ab_ce cs ad z k) := by
  simp [ab_wl, hk]
theorem ab_ce_obj {cs : ab_C3} {ad : Nat → Nat} {z : ab_S} {k c : Nat} (h : ab_ly k = (0, c)) : ab_ce cs ad z k = .inr (c, ab_fs c ad z k) := by simp [ab_ce, h]
theorem ab_ce_int {cs : ab_C3} {ad : Nat → Nat} {z : ab_S} {k : Nat} (h : (ab_ly k).1 = 1) : ab_ce cs ad z k = .inl (cs.1, (ab_ly k).2, .inl (z.1 k)) := by simp [ab_ce, h]
theorem ab_ce_long {cs : ab_C3} {ad : Nat → Nat} {z : ab_S} {k : Nat} (h : (ab_ly k).1 = 2) : ab_ce cs ad z k = .inl (cs.2.1, (ab_ly k).2, .inr (.inl (z.2.1 k))) := by simp [ab_ce, h]
theorem ab_ce_bool {cs : ab_C3} {ad : Nat → Nat} {z : ab_S} {k : Nat} (h : (ab_ly k).1 = 3) : ab_ce cs ad z k = .inl (cs.2.2, (ab_ly k).2, .inl (z.1 k)) := by simp [ab_ce, h]
theorem ab_fs_at {c : Nat} {ad : Nat → Nat} {z : ab_S} {k f : Nat} (hf : f < ab_nf c) : (ab_fs c ad z k)[f]? = some (ab_fv c ad z k f) := by simp [ab_fs, hf]
theorem ab_fs_set {c : Nat} {ad : Nat → Nat} {z z' : ab_S} {k f : Nat} {v : Value} (h1 : ab_fv c ad z' k f = v) (h2 : ∀ j, j ≠ f → ab_fv c ad z' k j = ab_fv c ad z k j) : (ab_fs c ad z k).set f v = ab_fs c ad z' k := by
  apply List.ext_getElem?
  intro j
  rw [List.getElem?_set]
  by_cases hj : f = j
  · subst hj
    rw [if_pos rfl]
    by_cases hl : f < ab_nf c
    · rw [if_pos (by simp [ab_fs, hl]), ab_fs_at hl, h1]
    · rw [if_neg (by simp [ab_fs, hl])]
      simp [ab_fs, hl]
  · rw [if_neg hj]
    by_cases hl : j < ab_nf c
    · rw [ab_fs_at hl, ab_fs_at hl, h2 j (Ne.symm hj)]
    · simp [ab_fs, hl]
theorem ab_wl_set {cs : ab_C3} {ad : Nat → Nat} {z z' : ab_S} {k : Nat} (hn : z'.2.2.2 = z.2.2.2) (ho : ∀ j, j ≠ k → ab_ce cs ad z' j = ab_ce cs ad z j) : (ab_wl cs ad z).set k (ad k, ab_ce cs ad z' k) = ab_wl cs ad z' := by
  apply List.ext_getElem?
  intro j
  rw [List.getElem?_set]
  by_cases hj : k = j
  · subst hj
    rw [if_pos rfl]
    by_cases hl : k < z.2.2.2
    · rw [if_pos (by simp [ab_wl, hl]), ab_wl_at (by rw [hn]; exact hl)]
    · rw [if_neg (by simp [ab_wl, hl])]
      simp [ab_wl, hl, hn]
  · rw [if_neg hj]
    by_cases hl : j < z.2.2.2
    · rw [ab_wl_at hl, ab_wl_at (by rw [hn]; exact hl), ho j (Ne.symm hj)]
    · simp [ab_wl, hl, hn]
theorem ab_fv_congr {c : Nat} {ad : Nat → Nat} {z z' : ab_S} {k j : Nat} (h1 : z'.1 k j = z.1 k j) (h2 : z'.2.1 k j = z.2.1 k j) (h3 : ab_rf z'.2.2.1 k j = ab_rf z.2.2.1 k j) : ab_fv c ad z' k j = ab_fv c ad z k j := by
  unfold ab_fv
  rw [h1, h2, h3]
theorem ab_ce_congr {cs : ab_C3} {ad : Nat → Nat} {z z' : ab_S} {k : Nat} (h1 : z'.1 k = z.1 k) (h2 : z'.2.1 k = z.2.1 k) (h3 : ∀ j, ab_rf z'.2.2.1 k j = ab_rf z.2.2.1 k j) : ab_ce cs ad z' k = ab_ce cs ad z k := by
  have e : ab_fs (ab_ly k).2 ad z' k = ab_fs (ab_ly k).2 ad z k := List.map_congr_left (fun j _ => ab_fv_congr (by rw [h1]) (by rw [h2]) (h3 j))
  unfold ab_ce
  rw [h1, h2, e]
theorem va_up_s {α : Type} (f : Nat → α) (k : Nat) (v : α) : va_up f k v k = v := if_pos rfl
theorem va_up_n {α : Type} (f : Nat → α) {k j : Nat} (v : α) (h : j ≠ k) : va_up f k v j = f j := if_neg h
theorem ab_sr_n {R : List (List (Option Nat))} {k f k' f' : Nat} {v : Option Nat} (h : ¬ (k' = k ∧ f' = f)) : ab_rf (ab_sr R k f v) k' f' = ab_rf R k' f' := by
  unfold ab_rf ab_sr
  simp only [List.getD_eq_getElem?_getD, List.getElem?_set]
  by_cases hk : k = k'
  · subst hk
    rw [if_pos rfl]
    have hf : ¬ f = f' := fun q => h ⟨rfl, q.symm⟩
    by_cases hl : k < R.length
    · rw [if_pos hl]
      simp [hf]
    · have e1 : R[k]? = none := List.getElem?_eq_none (Nat.not_lt.mp hl)
      rw [if_neg hl, e1]
  · rw [if_neg hk]
theorem ab_vp {x : Int32} {n : Nat} (h0 : 0 ≤ x.toInt) (h1 : x.toInt < (n : Int)) : vp_in x n := vp_in_iff.mpr ⟨h0, h1⟩
theorem ab_nar {x : Int32} (h : x = 0 ∨ x = 1) : vp_nar .boolean x = x ∧ narrow .boolean (.int x) = .int x ∧ fits .boolean (.int x) = true := by
  rcases h with rfl | rfl <;> decide +kernel
theorem ab_upd (f : Nat → Int32) (k : Nat) (x : Int32) : upd f k x = va_up f k x := rfl
theorem ab_updL (f : Nat → Int64) (k : Nat) (x : Int64) : vp_updL f k x = va_up f k x := rfl
