/-! PURE 54: rounds: the least way over a set and back; stops -/
def mnF (P : Nat → Bool) (v : Nat → Nat) (b : Nat) : Nat → Nat
  | 0 => b
  | x + 1 => if P x = true then min (mnF P v b x) (v x) else mnF P v b x
theorem mnF_ext {P Q : Nat → Bool} {v u : Nat → Nat} {b : Nat} : ∀ n, (∀ x, x < n → P x = Q x ∧ (P x = true → v x = u x)) → mnF P v b n = mnF Q u b n
  | 0, _ => rfl
  | n + 1, h => by
    have ih := mnF_ext (b := b) n (fun x hx => h x (by omega))
    have hn := h n (by omega)
    unfold mnF
    rw [ih, ← hn.1]
    by_cases c : P n = true
    · rw [if_pos c, if_pos c, hn.2 c]
    · rw [if_neg c, if_neg c]
theorem mnF_le (P : Nat → Bool) (v : Nat → Nat) (b : Nat) : ∀ n, mnF P v b n ≤ b ∧ ∀ x, x < n → P x = true → mnF P v b n ≤ v x
  | 0 => ⟨Nat.le_refl _, fun x h => by omega⟩
  | n + 1 => by
    obtain ⟨i1, i2⟩ := mnF_le P v b n
    unfold mnF
    by_cases c : P n = true
    · rw [if_pos c]
      refine ⟨by omega, fun x hx hp => ?_⟩
      by_cases e : x = n
      · subst e; omega
      · have := i2 x (by omega) hp; omega
    · rw [if_neg c]
      refine ⟨i1, fun x hx hp => ?_⟩
      by_cases e : x = n
      · subst e; exact absurd hp c
      · exact i2 x (by omega) hp
theorem mnF_at (P : Nat → Bool) (v : Nat → Nat) (b : Nat) : ∀ n, mnF P v b n = b ∨ ∃ x, x < n ∧ P x = true ∧ mnF P v b n = v x
  | 0 => Or.inl rfl
  | n + 1 => by
    have ih := mnF_at P v b n
    unfold mnF
    by_cases c : P n = true
    · rw [if_pos c]
      rcases Nat.le_total (mnF P v b n) (v n) with d | d
      · rw [Nat.min_eq_left d]
        rcases ih with ih | ⟨x, a, e⟩
        · exact Or.inl ih
        · exact Or.inr ⟨x, by omega, e⟩
      · rw [Nat.min_eq_right d]
        exact Or.inr ⟨n, by omega, c, rfl⟩
    · rw [if_neg c]
      rcases ih with ih | ⟨x, a, e⟩
      · exact Or.inl ih
      · exact Or.inr ⟨x, by omega, e⟩
theorem anN_less {s x : Nat} (h : s.testBit x = true) : anN s (2 ^ x) < s := by
  have h1 : anN s (2 ^ x) ≤ s := by
    refine sub_le (n := s) (Nat.lt_of_lt_of_le (anN_lt (n := s) Nat.lt_two_pow_self) (Nat.le_refl _)) ?_
    apply Nat.eq_of_testBit_eq
    intro i
    rw [anN_tb, anN_tb, Nat.zero_testBit]
    cases s.testBit i <;> simp
  have h2 : anN s (2 ^ x) ≠ s := fun q => by
    have := anN_tb s (2 ^ x) x
    rw [q, h, Nat.testBit_two_pow, decide_eq_true rfl] at this
    cases this
  omega
def Tf (H : Nat → Nat → Nat) (k : Nat) : Nat → Nat → Nat → Nat
  | 0, _, last => H last 0
  | f + 1, s, last => if s = 0 then H last 0 else mnF (fun x => s.testBit x) (fun x => H last x + Tf H k f (anN s (2 ^ x)) x) 1000000 k
theorem Tf_fuel (H : Nat → Nat → Nat) (k : Nat) : ∀ (f f' s last : Nat), s ≤ f → s ≤ f' → Tf H k f s last = Tf H k f' s last := by
  intro f
  induction f with
  | zero =>
    intro f' s last h1 h2
    have : s = 0 := by omega
    subst this
    cases f' with
    | zero => rfl
    | succ f' => unfold Tf; rw [if_pos rfl]
  | succ f ih =>
    intro f' s last h1 h2
    cases f' with
    | zero =>
      have : s = 0 := by omega
      subst this
      unfold Tf; rw [if_pos rfl]
    | succ f' =>
      unfold Tf
      by_cases c : s = 0
      · rw [if_pos c, if_pos c]
      · rw [if_neg c, if_neg c]
        refine mnF_ext k (fun x hx => ⟨rfl, fun hb => ?_⟩)
        have := anN_less hb
        show H last x + _ = H last x + _
        rw [ih f' (anN s (2 ^ x)) x (by omega) (by omega)]
def Tw (H : Nat → Nat → Nat) (k s last : Nat) : Nat := Tf H k s s last
theorem Tw_0 (H : Nat → Nat → Nat) (k last : Nat) : Tw H k 0 last = H last 0 := rfl
theorem Tw_s (H : Nat → Nat → Nat) (k : Nat) {s : Nat} (hs : s ≠ 0) (last : Nat) : Tw H k s last = mnF (fun x => s.testBit x) (fun x => H last x + Tw H k (anN s (2 ^ x)) x) 1000000 k := by
  unfold Tw
  obtain ⟨f, rfl⟩ : ∃ f, s = f + 1 := ⟨s - 1, by omega⟩
  show (if f + 1 = 0 then _ else _) = _
  rw [if_neg hs]
  refine mnF_ext k (fun x hx => ⟨rfl, fun hb => ?_⟩)
  have := anN_less hb
  show H last x + _ = H last x + _
  rw [Tf_fuel H k f (anN (f + 1) (2 ^ x)) (anN (f + 1) (2 ^ x)) x (by omega) (Nat.le_refl _)]
theorem Tw_le {H : Nat → Nat → Nat} {k : Nat} (hH : ∀ a b, a < k → b < k → H a b ≤ 1000000) (s : Nat) {last : Nat} (hl : last < k) : Tw H k s last ≤ 1000000 := by
  by_cases c : s = 0
  · subst c; rw [Tw_0]; exact hH last 0 hl (by omega)
  · rw [Tw_s H k c]; exact (mnF_le _ _ _ _).1
/-- the i-th post with a worth -/
def stN (W : Nat → Bool) : Nat → Nat → Nat
  | 0, _ => 0
  | p + 1, i => if W p = true ∧ i = cnt W p then p else stN W p i
theorem stN_lt {W : Nat → Bool} : ∀ n i, i < cnt W n → stN W n i < n ∧ W (stN W n i) = true
  | 0, i, h => by unfold cnt at h; omega
  | n + 1, i, h => by
    have e : cnt W (n + 1) = cnt W n + (if W n = true then 1 else 0) := rfl
    unfold stN
    by_cases c : W n = true ∧ i = cnt W n
    · rw [if_pos c]; exact ⟨by omega, c.1⟩
    · rw [if_neg c]
      have hi : i < cnt W n := by
        by_cases d : W n = true
        · rw [e, if_pos d] at h
          have : i ≠ cnt W n := fun q => c ⟨d, q⟩
          omega
        · rw [e, if_neg d] at h
          omega
      have := stN_lt n i hi
      exact ⟨by omega, this.2⟩
def wyF (wor : Nat → Nat) (p : Nat) : Bool := decide (0 < wor p)
theorem M_gather (N : Nat) {n : Nat} {wor : Nat → Nat} (n16 : n ≤ 16) : ∀ (m p : Nat) (μ : Mm), μ.1 0 9 = nI n → (∀ q, q < n → wor q ≤ 9 ∧ μ.1 7 q = nI (wor q)) → p ≤ n → n < m + p → μ.1 0 46 = nI (min 10 (cnt (wyF wor) p)) → (∀ i, i < min 10 (cnt (wyF wor) p) → μ.1 24 i = nI (stN (wyF wor) p i)) → ∃ μ', f_M_layRound_L9 N m (nI (cnt (wyF wor) p)) (nI p) μ = f_M_layRound_B78 N (nI (cnt (wyF wor) n)) μ' ∧ MFr μ μ' ∧ μ'.1 0 46 = nI (min 10 (cnt (wyF wor) n)) ∧ (∀ i, i < min 10 (cnt (wyF wor) n) → μ'.1 24 i = nI (stN (wyF wor) n i)) := by
  intro m
  induction m with
  | zero => intro p μ _ _ h1 h2; omega
  | succ m ih =>
    intro p μ en hw h1 h2 e46 e24
    rw [f_M_layRound_L9, en]
    by_cases c : p = n
    · rw [if_pos (nI_le (by omega) (by omega)), c]
      rw [c] at e46 e24
      exact ⟨μ, rfl, MFr.refl μ, e46, e24⟩
    · have hp : p < n := by omega
      obtain ⟨w9, w7⟩ := hw p hp
      have cs : cnt (wyF wor) (p + 1) = cnt (wyF wor) p + (if wyF wor p = true then 1 else 0) := rfl
      have cl := cnt_le (wyF wor) p
      rw [if_neg (nI_ge (by omega) (by omega)), if_pos (ixb_t (show p < 16 by omega) (by decide)), nI_clamp (show p < 2 ^ 31 by omega), w7]
      unfold f_M_layRound_B32 f_M_layRound_B72
      simp only [if_pos (ixb_t (show p < 16 by omega) (show 16 < 2 ^ 31 by decide)), nI_clamp (show p < 2 ^ 31 by omega), w7, nI_1, nI_add, e46]
      by_cases z : wor p = 0
      · have zf : wyF wor p = false := by unfold wyF; exact decide_eq_false (by omega)
        rw [if_pos (show nI (wor p) ≤ (0 : Int32) by rw [z]; decide), if_pos (show nI (wor p) ≤ (0 : Int32) by rw [z]; decide), show (0 : Int32) = nI 0 from rfl, nI_add]
        rw [zf, if_neg (by decide)] at cs
        have := ih (p + 1) μ en hw (by omega) (by omega) (by rw [cs]; exact e46) (fun i hi => by
          rw [cs] at hi
          show _ = nI (if wyF wor p = true ∧ i = cnt (wyF wor) p then p else stN (wyF wor) p i)
          rw [if_neg (by rw [zf]; simp)]
          exact e24 i hi)
        rw [cs] at this
        exact this
      · have zf : wyF wor p = true := by unfold wyF; exact decide_eq_true (by omega)
        rw [if_neg (show ¬ nI (wor p) ≤ (0 : Int32) from nI_ge (a := 0) (by omega) (by omega)), if_neg (show ¬ nI (wor p) ≤ (0 : Int32) from nI_ge (a := 0) (by omega) (by omega))]
        rw [zf, if_pos rfl] at cs
        by_cases f : 10 ≤ cnt (wyF wor) p
        · rw [if_pos (show (10 : Int32) ≤ nI (min 10 (cnt (wyF wor) p)) by rw [Nat.min_eq_left f]; decide)]
          have := ih (p + 1) μ en hw (by omega) (by omega) (by rw [cs, Nat.min_eq_left (by omega)]; rw [Nat.min_eq_left f] at e46; exact e46) (fun i hi => by
            show _ = nI (if wyF wor p = true ∧ i = cnt (wyF wor) p then p else stN (wyF wor) p i)
            rw [if_neg (by omega)]
            exact e24 i (by omega))
          rw [cs] at this
          exact this
        · rw [Nat.min_eq_right (by omega)] at e46 ⊢
          rw [if_neg (show ¬ (10 : Int32) ≤ nI (cnt (wyF wor) p) from nI_ge (b := 10) (by omega) (by decide)), if_pos (ixb_t (show cnt (wyF wor) p < 10 by omega) (by decide)), nI_clamp (show cnt (wyF wor) p < 2 ^ 31 by omega)]
          have e46' : (sI μ 24 (cnt (wyF wor) p) (nI p)).1 0 46 = nI (cnt (wyF wor) p) := by rw [sI_ne _ _ _ (by decide)]; exact e46
          rw [e46', ← nI_succ]
          have f1 : MFr μ (sI (sI μ 24 (cnt (wyF wor) p) (nI p)) 0 46 (nI (cnt (wyF wor) p + 1))) := (MFr.cell (c := 24) (by omega) μ _).trans (MFr.fld (by decide) _ _)
          obtain ⟨μ', r1, r2, r3, r4⟩ := ih (p + 1) (sI (sI μ 24 (cnt (wyF wor) p) (nI p)) 0 46 (nI (cnt (wyF wor) p + 1))) (by rw [f1.1 9 (by omega)]; exact en) (fun q hq => by rw [f1.2.1 7 (by omega)]; exact hw q hq) (by omega) (by omega) (by rw [sI_at, upd_eq, cs, Nat.min_eq_right (by omega)]) (fun i hi => by
            rw [sI_ne _ _ _ (by decide), sI_at, upd_at]
            show _ = nI (if wyF wor p = true ∧ i = cnt (wyF wor) p then p else stN (wyF wor) p i)
            by_cases g : i = cnt (wyF wor) p
            · rw [if_pos g, if_pos ⟨zf, g⟩]
            · rw [if_neg g, if_neg (fun q => g q.2)]
              exact e24 i (by omega))
          rw [cs] at r1
          exact ⟨μ', r1, f1.trans r2, r3, r4⟩
/-- the model's places for rounds: the table is laid set by set -/
theorem M_hop_eq (N : Nat) {n k : Nat} {st : Nat → Nat} {F : Nat → Nat → Nat} (n16 : n ≤ 16) (k10 : k ≤ 10) (hst : ∀ i, i < k → st i < n) {a b : Nat} (ha : a < k) (hb : b < k) (μ : Mm) (e24 : ∀ i, i < k → μ.1 24 i = nI (st i)) (e9 : FA n F (μ.1 9)) : f_M_hop N (nI a) (nI b) μ = some (nI (F (st a) (st b)), μ) := by
  have h1 := hst a ha
  have h2 := hst b hb
  unfold f_M_hop
  simp only [if_pos (ixb_t (show a < 10 by omega) (show 10 < 2 ^ 31 by decide)), if_pos (ixb_t (show b < 10 by omega) (show 10 < 2 ^ 31 by decide)), nI_clamp (show a < 2 ^ 31 by omega), nI_clamp (show b < 2 ^ 31 by omega), e24 a ha, e24 b hb, show (16 : Int32) = nI 16 from rfl, pk_mul, nI_add, if_pos (ixb_t (show 16 * st a + st b < 256 by omega) (show 256 < 2 ^ 31 by decide)), nI_clamp (show 16 * st a + st b < 2 ^ 31 by omega), e9 _ _ h1 h2]
theorem M_restOf_eq (N : Nat) {s a : Nat} (hs : s < 1024) (ha : a < 10) (μ : Mm) : f_M_restOf N (nI s) (nI a) μ = some (μ.1 25 (10 * s + a), μ) := by
  unfold f_M_restOf
  simp only [show (10 : Int32) = nI 10 from rfl, pk_mul, nI_add, if_pos (ixb_t (show 10 * s + a < 10240 by omega) (show 10240 < 2 ^ 31 by decide)), nI_clamp (show 10 * s + a < 2 ^ 31 by omega)]
theorem clr_bit {s x : Nat} (hs : s < 2 ^ 31) (hx : x < 31) : nI s &&& (((1 : Int32) <<< (nI x &&& 31)) ^^^ -1) = nI (anN s (2 ^ x)) := by
  rw [shl1 hx, notN hs (Nat.pow_lt_pow_right (by decide) hx)]
def HL (F : Nat → Nat → Nat) (st : Nat → Nat) (a b : Nat) : Nat := F (st a) (st b)
theorem M_round_in (N : Nat) {n k : Nat} {st : Nat → Nat} {F : Nat → Nat → Nat} (n16 : n ≤ 16) (k10 : k ≤ 10) (hst : ∀ i, i < k → st i < n) (hF : ∀ a b, a < n → b < n → F a b ≤ 1000000) {s last : Nat} (hs : s < 2 ^ k) (hs0 : s ≠ 0) (hl : last < k) (k92 : Int32 → Mm → Option (Int32 × Mm)) (k104 : Int32 → Int32 → Mm → Option (Int32 × Mm)) (μ : Mm) (e46 : μ.1 0 46 = nI k) (e24 : ∀ i, i < k → μ.1 24 i = nI (st i)) (e9 : FA n F (μ.1 9)) (tab : ∀ t a, t < s → a < k → μ.1 25 (10 * t + a) = nI (Tw (HL F st) k t a)) : ∀ (m x : Nat), x ≤ k → k < m + x → f_M_layRound_L132 N k92 k104 m (nI s) (nI last) (nI (mnF (fun x => s.testBit x) (fun x => HL F st last x + Tw (HL F st) k (anN s (2 ^ x)) x) 1000000 x)) (nI x) μ = f_M_layRound_B197 N k92 k104 (nI s) (nI last) (nI (Tw (HL F st) k s last)) μ := by
  have p1024 : 2 ^ k ≤ 1024 := (show 2 ^ k ≤ 2 ^ 10 from Nat.pow_le_pow_right (by decide) k10)
  have HB : ∀ a b, a < k → b < k → HL F st a b ≤ 1000000 := fun a b ha hb => hF _ _ (hst a ha) (hst b hb)
  intro m
  induction m with
  | zero => intro x h1 h2; omega
  | succ m ih =>
    intro x h1 h2
    rw [f_M_layRound_L132, e46]
    by_cases c : x = k
    · rw [if_pos (nI_le (by omega) (by omega)), c, Tw_s _ _ hs0]
    · have hx : x < k := by omega
      have ml := (mnF_le (fun x => s.testBit x) (fun x => HL F st last x + Tw (HL F st) k (anN s (2 ^ x)) x) 1000000 x).1
      rw [if_neg (nI_ge (by omega) (by omega)), bitN (by omega) (by omega)]
      unfold f_M_layRound_B189 f_M_layRound_B191
      simp only [nI_1, nI_add]
      have ih' := ih (x + 1) (by omega) (by omega)
      have st1 : mnF (fun x => s.testBit x) (fun x => HL F st last x + Tw (HL F st) k (anN s (2 ^ x)) x) 1000000 (x + 1) = if s.testBit x = true then min (mnF (fun x => s.testBit x) (fun x => HL F st last x + Tw (HL F st) k (anN s (2 ^ x)) x) 1000000 x) (HL F st last x + Tw (HL F st) k (anN s (2 ^ x)) x) else mnF (fun x => s.testBit x) (fun x => HL F st last x + Tw (HL F st) k (anN s (2 ^ x)) x) 1000000 x := rfl
      by_cases b : s.testBit x = true
      · have al := anN_less b
        have h3 := HB last x hl hx
        have h4 := Tw_le HB (anN s (2 ^ x)) hx
        rw [if_pos (by rw [b]; rfl), M_hop_eq N n16 k10 hst hl hx μ e24 e9, bnS, clr_bit (by omega) (by omega), M_restOf_eq N (by omega) (by omega), bnS, tab _ x al hx, nI_add]
        rw [if_pos b] at st1
        have lv : F (st last) (st x) = HL F st last x := rfl
        rw [lv]
        by_cases d : mnF (fun x => s.testBit x) (fun x => HL F st last x + Tw (HL F st) k (anN s (2 ^ x)) x) 1000000 x ≤ HL F st last x + Tw (HL F st) k (anN s (2 ^ x)) x
        · rw [if_pos (nI_le d (by omega))]
          rw [st1, Nat.min_eq_left d] at ih'
          exact ih'
        · rw [if_neg (nI_ge (by omega) (by omega))]
          rw [st1, Nat.min_eq_right (by omega)] at ih'
          exact ih'
      · have b' : s.testBit x = false := by simpa using b
        rw [if_neg (by rw [b']; decide)]
        rw [if_neg b] at st1
        rw [st1] at ih'
        exact ih'
theorem ten_inj {s a t b : Nat} (ha : a < 10) (hb : b < 10) : 10 * s + a = 10 * t + b ↔ s = t ∧ a = b := by omega
theorem M_round_last (N : Nat) (hN : 20 ≤ N) {n k : Nat} {st : Nat → Nat} {F : Nat → Nat → Nat} (n16 : n ≤ 16) (k10 : k ≤ 10) (hst : ∀ i, i < k → st i < n) (hF : ∀ a b, a < n → b < n → F a b ≤ 1000000) {s : Nat} (hs : s < 2 ^ k) (k92 : Int32 → Mm → Option (Int32 × Mm)) (μ0 : Mm) (e46 : μ0.1 0 46 = nI k) (e24 : ∀ i, i < k → μ0.1 24 i = nI (st i)) (e9 : FA n F (μ0.1 9)) : ∀ (m last : Nat) (f : Nat → Int32), last ≤ k → k < m + last → (∀ t a, a < k → (t < s ∨ (t = s ∧ a < last)) → f (10 * t + a) = nI (Tw (HL F st) k t a)) → ∃ g, f_M_layRound_L104 N k92 m (nI s) (nI last) (sA μ0 25 f) = k92 (nI (s + 1)) (sA μ0 25 g) ∧ ∀ t a, a < k → t < s + 1 → g (10 * t + a) = nI (Tw (HL F st) k t a) := by
  have p1024 : 2 ^ k ≤ 1024 := (show 2 ^ k ≤ 2 ^ 10 from Nat.pow_le_pow_right (by decide) k10)
  have HB : ∀ a b, a < k → b < k → HL F st a b ≤ 1000000 := fun a b ha hb => hF _ _ (hst a ha) (hst b hb)
  intro m
  induction m with
  | zero => intro last f h1 h2; omega
  | succ m ih =>
    intro last f h1 h2 hf
    have e46' : (sA μ0 25 f).1 0 46 = nI k := by rw [sA_ne _ _ (by decide)]; exact e46
    have e24' : ∀ i, i < k → (sA μ0 25 f).1 24 i = nI (st i) := fun i hi => by rw [sA_ne _ _ (by decide)]; exact e24 i hi
    have e9' : FA n F ((sA μ0 25 f).1 9) := by rw [sA_ne _ _ (by decide)]; exact e9
    rw [f_M_layRound_L104, e46']
    by_cases c : last = k
    · rw [if_pos (nI_le (by omega) (by omega))]
      unfold f_M_layRound_B228
      simp only [nI_1, nI_add]
      exact ⟨f, rfl, fun t a ha ht => hf t a ha (by omega)⟩
    · have hl : last < k := by omega
      have twl := Tw_le HB s hl
      rw [if_neg (nI_ge (by omega) (by omega))]
      have fin : ∃ g, f_M_layRound_B197 N k92 (f_M_layRound_L104 N k92 m) (nI s) (nI last) (nI (Tw (HL F st) k s last)) (sA μ0 25 f) = k92 (nI (s + 1)) (sA μ0 25 g) ∧ ∀ t a, a < k → t < s + 1 → g (10 * t + a) = nI (Tw (HL F st) k t a) := by
        unfold f_M_layRound_B197 f_M_layRound_B221
        rw [if_pos (show nI (Tw (HL F st) k s last) ≤ (1000000 : Int32) from (nIc (b := 1000000) (by omega) (by decide)).mpr twl), show (10 : Int32) = nI 10 from rfl, pk_mul, nI_add, if_pos (ixb_t (show 10 * s + last < 10240 by omega) (by decide)), nI_clamp (show 10 * s + last < 2 ^ 31 by omega), sI_A]
        simp only [nI_1, nI_add]
        refine ih (last + 1) _ (by omega) (by omega) (fun t a ha ht => ?_)
        rw [upd_at]
        by_cases e : 10 * t + a = 10 * s + last
        · obtain ⟨e1, e2⟩ := (ten_inj (by omega) (by omega)).mp e
          rw [if_pos e, e1, e2]
        · rw [if_neg e]
          refine hf t a ha ?_
          have : ¬ (t = s ∧ a = last) := fun q => e ((ten_inj (by omega) (by omega)).mpr q)
          omega
      unfold f_M_layRound_B127
      by_cases s0 : s = 0
      · subst s0
        have hop0 := M_hop_eq N n16 k10 hst hl (show 0 < k by omega) _ e24' e9'
        rw [show nI 0 = (0 : Int32) from rfl] at hop0
        rw [if_pos (by decide), hop0, bnS]
        have z : f_M_layRound_L132 N k92 (f_M_layRound_L104 N k92 m) N (nI 0) (nI last) (nI (F (st last) (st 0))) 0 (sA μ0 25 f) = f_M_layRound_B197 N k92 (f_M_layRound_L104 N k92 m) (nI 0) (nI last) (nI (Tw (HL F st) k 0 last)) (sA μ0 25 f) := by
          have : ∀ (m' x : Nat), x ≤ k → k < m' + x → f_M_layRound_L132 N k92 (f_M_layRound_L104 N k92 m) m' (nI 0) (nI last) (nI (F (st last) (st 0))) (nI x) (sA μ0 25 f) = f_M_layRound_B197 N k92 (f_M_layRound_L104 N k92 m) (nI 0) (nI last) (nI (Tw (HL F st) k 0 last)) (sA μ0 25 f) := by
            intro m'
            induction m' with
            | zero => intro x h1 h2; omega
            | succ m' ih' =>
              intro x h1 h2
              rw [f_M_layRound_L132, e46']
              by_cases y : x = k
              · rw [if_pos (nI_le (by omega) (by omega))]; rfl
              · rw [if_neg (nI_ge (by omega) (by omega)), bitN (by decide) (by omega), Nat.zero_testBit, if_neg (by decide)]
                unfold f_M_layRound_B191
                simp only [nI_1, nI_add]
                exact ih' (x + 1) (by omega) (by omega)
          exact this N 0 (by omega) (by omega)
        rw [show nI 0 = (0 : Int32) from rfl] at z fin ⊢
        rw [z]
        exact fin
      · have tb : ∀ t a, t < s → a < k → (sA μ0 25 f).1 25 (10 * t + a) = nI (Tw (HL F st) k t a) := fun t a ht ha => by rw [sAat]; exact hf t a ha (Or.inl ht)
        have := M_round_in N n16 k10 hst hF hs s0 hl k92 (f_M_layRound_L104 N k92 m) (sA μ0 25 f) e46' e24' e9' tb N 0 (by omega) (by omega)
        rw [show nI (mnF (fun x => s.testBit x) (fun x => HL F st last x + Tw (HL F st) k (anN s (2 ^ x)) x) 1000000 0) = (1000000 : Int32) from rfl, show nI 0 = (0 : Int32) from rfl] at this
        rw [if_neg (nI_ne0 (by omega) (by omega)), this]
        exact fin
theorem M_round_sets (N : Nat) (hN : 20 ≤ N) {n k : Nat} {st : Nat → Nat} {F : Nat → Nat → Nat} (n16 : n ≤ 16) (k10 : k ≤ 10) (hst : ∀ i, i < k → st i < n) (hF : ∀ a b, a < n → b < n → F a b ≤ 1000000) (μ0 : Mm) (e46 : μ0.1 0 46 = nI k) (e24 : ∀ i, i < k → μ0.1 24 i = nI (st i)) (e9 : FA n F (μ0.1 9)) : ∀ (m s : Nat) (f : Nat → Int32), s ≤ 2 ^ k → 2 ^ k < m + s → (∀ t a, a < k → t < s → f (10 * t + a) = nI (Tw (HL F st) k t a)) → ∃ g, f_M_layRound_L92 N m (nI s) (sA μ0 25 f) = some (1, sA μ0 25 g) ∧ ∀ t a, a < k → t < 2 ^ k → g (10 * t + a) = nI (Tw (HL F st) k t a) := by
  have p1024 : 2 ^ k ≤ 1024 := (show 2 ^ k ≤ 2 ^ 10 from Nat.pow_le_pow_right (by decide) k10)
  intro m
  induction m with
  | zero => intro s f h1 h2; omega
  | succ m ih =>
    intro s f h1 h2 hf
    have e46' : (sA μ0 25 f).1 0 46 = nI k := by rw [sA_ne _ _ (by decide)]; exact e46
    rw [f_M_layRound_L92, e46', shl1 (by omega)]
    by_cases c : s = 2 ^ k
    · rw [if_pos (nI_le (by omega) (by omega))]
      exact ⟨f, rfl, fun t a ha ht => hf t a ha (by omega)⟩
    · rw [if_neg (nI_ge (by omega) (by omega))]
      obtain ⟨g, r1, r2⟩ := M_round_last N hN n16 k10 hst hF (s := s) (by omega) (f_M_layRound_L92 N m) μ0 e46 e24 e9 N 0 f (by omega) (by omega) (fun t a ha ht => hf t a ha (by omega))
      rw [show nI 0 = (0 : Int32) from rfl] at r1
      rw [r1]
      exact ih (s + 1) g (by omega) (by omega) r2
theorem M_layRound_eq (N : Nat) (hN : 2000 ≤ N) {D : Da} (I : DI D) (μ : Mm) (M : DM D μ) : (10 < cnt (wyF D.wor) D.n ∧ ∃ μ', f_M_layRound N μ = some (0, μ') ∧ MFr μ μ') ∨ (cnt (wyF D.wor) D.n ≤ 10 ∧ ∃ μ', f_M_layRound N μ = some (1, μ') ∧ MFr μ μ' ∧ μ'.1 0 46 = nI (cnt (wyF D.wor) D.n) ∧ (∀ i, i < cnt (wyF D.wor) D.n → μ'.1 24 i = nI (stN (wyF D.wor) D.n i)) ∧ FA D.n (fw D.n D.len) (μ'.1 9) ∧ ∀ t a, a < cnt (wyF D.wor) D.n → t < 2 ^ cnt (wyF D.wor) D.n → μ'.1 25 (10 * t + a) = nI (Tw (HL (fw D.n D.len) (stN (wyF D.wor) D.n)) (cnt (wyF D.wor) D.n) t a)) := by
  have n16 := I.g.n16
  have cl := cnt_le (wyF D.wor) D.n
  unfold f_M_layRound
  have f0 := MFr.fld (f := 46) (by decide) μ 0
  obtain ⟨μ1, r1, r2, r3, r4⟩ := M_gather N (wor := D.wor) n16 N 0 (sI μ 0 46 0) (by rw [f0.1 9 (by omega)]; exact M.n) (fun q hq => ⟨I.wor q hq, by rw [f0.2.1 7 (by omega)]; exact M.wor q hq⟩) (by omega) (by omega) (by rw [sI_at, upd_eq]; rfl) (fun i hi => by
    exfalso
    have : cnt (wyF D.wor) 0 = 0 := rfl
    rw [this] at hi
    omega)
  rw [show nI (cnt (wyF D.wor) 0) = (0 : Int32) from rfl, show nI 0 = (0 : Int32) from rfl] at r1
  rw [r1]
  unfold f_M_layRound_B78
  have fm := f0.trans r2
  by_cases c : cnt (wyF D.wor) D.n ≤ 10
  · right
    refine ⟨c, ?_⟩
    rw [if_pos (show nI (cnt (wyF D.wor) D.n) ≤ (10 : Int32) from (nIc (b := 10) (by omega) (by decide)).mpr c)]
    rw [Nat.min_eq_right c] at r3 r4
    obtain ⟨g, eg, G⟩ := M_layFars_eq N D I.g (by omega) μ1 (fm.dm M)
    rw [eg, bvS]
    have f2 := fm.trans (MFr.cell (Or.inl rfl) μ1 g)
    obtain ⟨h, s1, s2⟩ := M_round_sets N (by omega) (F := fw D.n D.len) n16 c (fun i hi => (stN_lt D.n i hi).1) (fun a b ha hb => fw_le I.g ha hb) (sA μ1 9 g) (by rw [sA_ne _ _ (by decide)]; exact r3) (fun i hi => by rw [sA_ne _ _ (by decide)]; exact r4 i hi) (by rw [sAat]; exact G) N 0 ((sA μ1 9 g).1 25) (Nat.zero_le _) (by
      have : 2 ^ cnt (wyF D.wor) D.n ≤ 2 ^ 10 := Nat.pow_le_pow_right (by decide) c
      omega) (fun t a _ ht => by omega)
    rw [sA_id, show nI 0 = (0 : Int32) from rfl] at s1
    exact ⟨_, s1, f2.trans (MFr.cell (by omega) _ _), by rw [sA_ne _ _ (by decide), sA_ne _ _ (by decide)]; exact r3, fun i hi => by rw [sA_ne _ _ (by decide), sA_ne _ _ (by decide)]; exact r4 i hi, by rw [sA_ne _ _ (by decide), sAat]; exact G, fun t a ha ht => by rw [sAat]; exact s2 t a ha ht⟩
  · left
    refine ⟨by omega, ?_⟩
    rw [if_neg (show ¬ nI (cnt (wyF D.wor) D.n) ≤ (10 : Int32) from fun q => c ((nIc (b := 10) (by omega) (by decide)).mp q))]
    exact ⟨μ1, rfl, fm⟩
