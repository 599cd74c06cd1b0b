/-! WORLDS OF A FIXED SHAPE. A memory is two functions: ints and longs, by cell and place. The cells' addresses are any that are apart. -/
abbrev Mm : Type := (Nat → Nat → Int32) × (Nat → Nat → Int64)
def sI (μ : Mm) (c k : Nat) (v : Int32) : Mm := (fun c' => if c' = c then upd (μ.1 c) k v else μ.1 c', μ.2)
def sL (μ : Mm) (c k : Nat) (v : Int64) : Mm := (μ.1, fun c' => if c' = c then vp_updL (μ.2 c) k v else μ.2 c')
def sA (μ : Mm) (c : Nat) (f : Nat → Int32) : Mm := (fun c' => if c' = c then f else μ.1 c', μ.2)
def WK (j : Nat) : Nat := 13 + 6 * j
abbrev Shp : Type := (Nat × Nat) ⊕ (Nat × List Nat)
def fv (ad : Nat → Nat) (μ : Mm) (c : Nat) (code j : Nat) : Value := match code with
  | 0 => .int (μ.1 c j)
  | 1 => .long (μ.2 c j)
  | 2 => .ref (ad (WK (μ.1 c j).toNatClampNeg))
  | k + 3 => .ref (ad k)
def fvs (ad : Nat → Nat) (μ : Mm) (c : Nat) (j : Nat) : List Nat → List Value
  | [] => []
  | k :: ks => fv ad μ c k j :: fvs ad μ c (j + 1) ks
def arC (ad : Nat → Nat) (μ : Mm) (c t : Nat) : (Nat → Int32) ⊕ (Nat → Int64) ⊕ (Nat → UInt32) ⊕ (Nat → UInt64) ⊕ (Nat → Option Nat) :=
  if t = 3 then .inr (.inl (μ.2 c)) else if t = 4 then .inr (.inr (.inr (.inr (fun j => some (ad (WK j)))))) else .inl (μ.1 c)
def cel (ad : Nat → Nat) (dA : Nat → ClassId) (μ : Mm) (c : Nat) (h : Shp) : va_E := match h with
  | .inl (t, n) => .inl (dA t, n, arC ad μ c t)
  | .inr (ci, ks) => .inr (ci, fvs ad μ c 0 ks)
def wld (ad : Nat → Nat) (dA : Nat → ClassId) (μ : Mm) (c : Nat) : List Shp → va_W
  | [] => []
  | h :: r => (ad c, cel ad dA μ c h) :: wld ad dA μ (c + 1) r
theorem wld_get (ad : Nat → Nat) (dA : Nat → ClassId) (μ : Mm) : ∀ (SH : List Shp) (c i : Nat), (wld ad dA μ c SH)[i]? = (SH[i]?).map (fun h => (ad (c + i), cel ad dA μ (c + i) h))
  | [], c, i => by simp [wld]
  | h :: r, c, 0 => by simp [wld]
  | h :: r, c, i + 1 => by
    have := wld_get ad dA μ r (c + 1) i
    simp only [wld, List.getElem?_cons_succ, this]
    rw [show c + 1 + i = c + (i + 1) by omega]
theorem wld_at {ad : Nat → Nat} {dA : Nat → ClassId} {μ : Mm} {SH : List Shp} {i : Nat} {h : Shp} (hs : SH[i]? = some h) : (wld ad dA μ 0 SH)[i]? = some (ad i, cel ad dA μ i h) := by
  rw [wld_get, hs]; simp
theorem wld_len (ad : Nat → Nat) (dA : Nat → ClassId) (μ : Mm) : ∀ (SH : List Shp) (c : Nat), (wld ad dA μ c SH).length = SH.length
  | [], _ => rfl
  | _ :: r, c => by simp [wld, wld_len ad dA μ r (c + 1)]
def offC (μ μ' : Mm) (i : Nat) : Prop := ∀ j, j ≠ i → μ'.1 j = μ.1 j ∧ μ'.2 j = μ.2 j
theorem fvs_same {ad : Nat → Nat} {μ μ' : Mm} {c : Nat} (h1 : μ'.1 c = μ.1 c) (h2 : μ'.2 c = μ.2 c) : ∀ (ks : List Nat) (j : Nat), fvs ad μ' c j ks = fvs ad μ c j ks
  | [], _ => rfl
  | k :: ks, j => by
    have e : fv ad μ' c k j = fv ad μ c k j := by
      unfold fv
      split <;> simp [h1, h2]
    simp [fvs, e, fvs_same h1 h2 ks (j + 1)]
theorem cel_same {ad : Nat → Nat} {dA : Nat → ClassId} {μ μ' : Mm} {c : Nat} (h1 : μ'.1 c = μ.1 c) (h2 : μ'.2 c = μ.2 c) (h : Shp) : cel ad dA μ' c h = cel ad dA μ c h := by
  rcases h with ⟨t, n⟩ | ⟨ci, ks⟩
  · simp [cel, arC, h1, h2]
  · simp [cel, fvs_same h1 h2]
theorem wld_set {ad : Nat → Nat} {dA : Nat → ClassId} {μ μ' : Mm} {SH : List Shp} {i : Nat} {h : Shp} (hs : SH[i]? = some h) (ho : offC μ μ' i) : (wld ad dA μ 0 SH).set i (ad i, cel ad dA μ' i h) = wld ad dA μ' 0 SH := by
  apply List.ext_getElem?
  intro j
  have hi : i < SH.length := (List.getElem?_eq_some_iff.mp hs).1
  by_cases hj : i = j
  · subst hj
    rw [List.getElem?_set_self (by rw [wld_len]; exact hi), wld_at hs]
  · rw [List.getElem?_set_ne hj, wld_get, wld_get]
    cases SH[j]? with
    | none => rfl
    | some g =>
      simp only [Option.map_some, Nat.zero_add]
      rw [cel_same (ho j (Ne.symm hj)).1 (ho j (Ne.symm hj)).2]
theorem sI_off (μ : Mm) (c k : Nat) (v : Int32) : offC μ (sI μ c k v) c := fun j hj => ⟨by simp [sI, hj], rfl⟩
theorem sL_off (μ : Mm) (c k : Nat) (v : Int64) : offC μ (sL μ c k v) c := fun j hj => ⟨rfl, by simp [sL, hj]⟩
theorem sA_off (μ : Mm) (c : Nat) (f : Nat → Int32) : offC μ (sA μ c f) c := fun j hj => ⟨by simp [sA, hj], rfl⟩
theorem sI_at (μ : Mm) (c k : Nat) (v : Int32) : (sI μ c k v).1 c = upd (μ.1 c) k v := by simp [sI]
theorem sL_at (μ : Mm) (c k : Nat) (v : Int64) : (sL μ c k v).2 c = vp_updL (μ.2 c) k v := by simp [sL]
theorem sA_at (μ : Mm) (c : Nat) (f : Nat → Int32) : (sA μ c f).1 c = f := by simp [sA]
theorem fvs_get {ad : Nat → Nat} {μ : Mm} {c : Nat} : ∀ (ks : List Nat) (j k : Nat) {code : Nat}, ks[k]? = some code → (fvs ad μ c j ks)[k]? = some (fv ad μ c code (j + k))
  | [], j, k, code, h => by simp at h
  | a :: ks, j, 0, code, h => by simp at h; simp [fvs, h]
  | a :: ks, j, k + 1, code, h => by
    simp only [List.getElem?_cons_succ] at h
    simp only [fvs, List.getElem?_cons_succ, fvs_get ks (j + 1) k h]
    rw [show j + 1 + k = j + (k + 1) by omega]
theorem fvs_at {ad : Nat → Nat} {μ : Mm} {c : Nat} {ks : List Nat} {k code : Nat} (h : ks[k]? = some code) : (fvs ad μ c 0 ks)[k]? = some (fv ad μ c code k) := by
  rw [fvs_get ks 0 k h, Nat.zero_add]
theorem fvs_len {ad : Nat → Nat} {μ : Mm} {c : Nat} : ∀ (ks : List Nat) (j : Nat), (fvs ad μ c j ks).length = ks.length
  | [], _ => rfl
  | _ :: ks, j => by simp [fvs, fvs_len ks (j + 1)]
/-- one field is another: the rest of the fields stay -/
theorem fvs_set {ad : Nat → Nat} {μ μ' : Mm} {c : Nat} {ks : List Nat} {k code : Nat} (h : ks[k]? = some code) (ho : ∀ j, j ≠ k → μ'.1 c j = μ.1 c j ∧ μ'.2 c j = μ.2 c j) : (fvs ad μ c 0 ks).set k (fv ad μ' c code k) = fvs ad μ' c 0 ks := by
  apply List.ext_getElem?
  intro j
  have hk : k < ks.length := (List.getElem?_eq_some_iff.mp h).1
  by_cases hj : k = j
  · subst hj
    rw [List.getElem?_set_self (by rw [fvs_len]; exact hk), fvs_at h]
  · rw [List.getElem?_set_ne hj]
    cases hq : ks[j]? with
    | none =>
      have : ks.length ≤ j := by simpa using hq
      rw [List.getElem?_eq_none (by rw [fvs_len]; exact this), List.getElem?_eq_none (by rw [fvs_len]; exact this)]
    | some g =>
      rw [fvs_at hq, fvs_at hq]
      have e : fv ad μ' c g j = fv ad μ c g j := by
        unfold fv
        split <;> simp [(ho j (Ne.symm hj)).1, (ho j (Ne.symm hj)).2]
      rw [e]
def AA (SH : List Shp) (ad : Nat → Nat) (q : Nat) : Prop := ∃ i, i < SH.length ∧ q = ad i
def Inj (SH : List Shp) (ad : Nat → Nat) : Prop := ∀ i j, i < SH.length → j < SH.length → ad i = ad j → i = j
theorem wld_D {SH : List Shp} {ad : Nat → Nat} (hi : Inj SH ad) (dA : Nat → ClassId) (μ : Mm) : va_D (AA SH ad) (wld ad dA μ 0 SH) := by
  have key : ∀ (k : Nat) (q : Nat × va_E), (wld ad dA μ 0 SH)[k]? = some q → k < SH.length ∧ q.1 = ad k := by
    intro k q h
    have hk : k < SH.length := by
      have := (List.getElem?_eq_some_iff.mp h).1
      rwa [wld_len] at this
    refine ⟨hk, ?_⟩
    rw [wld_at (List.getElem?_eq_getElem hk)] at h
    cases h
    rfl
  refine ⟨fun i j p q h1 h2 h3 => ?_, fun k q h => ⟨k, (key k q h).1, (key k q h).2⟩⟩
  obtain ⟨a1, a2⟩ := key i p h1
  obtain ⟨b1, b2⟩ := key j q h2
  exact hi i j a1 b1 (by rw [← a2, ← b2, h3])
/-! ===== locals as a function ===== -/
def upL (lv : Nat → Option Value) (i : Nat) (v : Value) : Nat → Option Value := fun j =>
  if j = i then some v else if v.category = 2 ∧ j = i + 1 then none else if j + 1 = i then (match lv j with | some w => if w.category = 2 then none else some w | none => none) else lv j
def lvf (ls : Array Slot) (nL : Nat) (lv : Nat → Option Value) : Prop := ls.size = nL ∧ lv_wf ls ∧ ∀ i v, lv i = some v → ls[i]? = some (.val v)
def toL (nL : Nat) (lv : Nat → Option Value) : List (Nat × Value) := (List.range nL).filterMap (fun i => (lv i).map (fun v => (i, v)))
theorem toL_mem {nL : Nat} {lv : Nat → Option Value} {i : Nat} {v : Value} : (i, v) ∈ toL nL lv ↔ i < nL ∧ lv i = some v := by
  simp only [toL, List.mem_filterMap, List.mem_range, Option.map_eq_some_iff, Prod.mk.injEq]
  constructor
  · rintro ⟨a, h1, b, h2, rfl, rfl⟩
    exact ⟨h1, h2⟩
  · rintro ⟨h1, h2⟩
    exact ⟨i, h1, v, h2, rfl, rfl⟩
theorem lvf_has {ls : Array Slot} {nL : Nat} {lv : Nat → Option Value} (h : lvf ls nL lv) : lv_has ls nL (toL nL lv) :=
  ⟨h.1, h.2.1, fun q hq => h.2.2 q.1 q.2 (toL_mem.mp hq).2⟩
theorem lvf_lt {ls : Array Slot} {nL : Nat} {lv : Nat → Option Value} (h : lvf ls nL lv) {i : Nat} {v : Value} (hi : lv i = some v) : i < nL := by
  have := lv_lt (h.2.2 i v hi)
  rwa [h.1] at this
theorem lvf_of1 {ls ls' : Array Slot} {nL i : Nat} {v : Value} {lv : Nat → Option Value} (h : lvf ls nL lv) (hc : v.category = 1) (h2 : lv_has ls' nL ((i, v) :: (toL nL lv).filter (fun q => !(q.1 == i) && !(q.1 + 1 == i && q.2.category == 2)))) : lvf ls' nL (upL lv i v) := by
  refine ⟨h2.1, h2.2.1, fun j w hj => ?_⟩
  unfold upL at hj
  by_cases e : j = i
  · rw [if_pos e] at hj
    cases hj
    subst e
    exact h2.2.2 (j, v) List.mem_cons_self
  · rw [if_neg e, if_neg (by rintro ⟨q, -⟩; omega)] at hj
    have hw : lv j = some w ∧ ¬ (j + 1 = i ∧ w.category = 2) := by
      by_cases e2 : j + 1 = i
      · rw [if_pos e2] at hj
        cases hl : lv j with
        | none => rw [hl] at hj; simp at hj
        | some x =>
          rw [hl] at hj
          simp only at hj
          by_cases e3 : x.category = 2
          · rw [if_pos e3] at hj; cases hj
          · rw [if_neg e3] at hj
            cases hj
            exact ⟨rfl, fun q => e3 q.2⟩
      · rw [if_neg e2] at hj
        exact ⟨hj, fun q => e2 q.1⟩
    refine h2.2.2 (j, w) (List.mem_cons_of_mem _ (List.mem_filter.mpr ⟨toL_mem.mpr ⟨lvf_lt h hw.1, hw.1⟩, ?_⟩))
    simp only [Bool.and_eq_true, Bool.not_eq_true', beq_eq_false_iff_ne, ne_eq, Bool.and_eq_false_iff]
    refine ⟨e, ?_⟩
    by_cases e2 : j + 1 = i
    · exact Or.inr (fun q => hw.2 ⟨e2, q⟩)
    · exact Or.inl e2
theorem lvf_of2 {ls ls' : Array Slot} {nL i : Nat} {v : Value} {lv : Nat → Option Value} (h : lvf ls nL lv) (hc : v.category = 2) (h2 : lv_has ls' nL ((i, v) :: (toL nL lv).filter (fun q => !(q.1 == i) && (!(q.1 == i + 1) && !(q.1 + 1 == i && q.2.category == 2))))) : lvf ls' nL (upL lv i v) := by
  refine ⟨h2.1, h2.2.1, fun j w hj => ?_⟩
  unfold upL at hj
  by_cases e : j = i
  · rw [if_pos e] at hj
    cases hj
    subst e
    exact h2.2.2 (j, v) List.mem_cons_self
  · rw [if_neg e] at hj
    by_cases e1 : j = i + 1
    · rw [if_pos ⟨hc, e1⟩] at hj
      cases hj
    · rw [if_neg (fun q => e1 q.2)] at hj
      have hw : lv j = some w ∧ ¬ (j + 1 = i ∧ w.category = 2) := by
        by_cases e2 : j + 1 = i
        · rw [if_pos e2] at hj
          cases hl : lv j with
          | none => rw [hl] at hj; simp at hj
          | some x =>
            rw [hl] at hj
            simp only at hj
            by_cases e3 : x.category = 2
            · rw [if_pos e3] at hj; cases hj
            · rw [if_neg e3] at hj
              cases hj
              exact ⟨rfl, fun q => e3 q.2⟩
        · rw [if_neg e2] at hj
          exact ⟨hj, fun q => e2 q.1⟩
      refine h2.2.2 (j, w) (List.mem_cons_of_mem _ (List.mem_filter.mpr ⟨toL_mem.mpr ⟨lvf_lt h hw.1, hw.1⟩, ?_⟩))
      simp only [Bool.and_eq_true, Bool.not_eq_true', beq_eq_false_iff_ne, ne_eq, Bool.and_eq_false_iff]
      refine ⟨e, e1, ?_⟩
      by_cases e2 : j + 1 = i
      · exact Or.inr (fun q => hw.2 ⟨e2, q⟩)
      · exact Or.inl e2
def lvA (vs : List Value) : Nat → Option Value := fun i => (lv_args 0 vs).lookup i
