/-! PURE 86: the word, both sides step by step -/
theorem nwT_old {z t : Int} (z1 : -1 ≤ z) (t0 : 0 ≤ t) : 0 ≤ nwT z t ∧ nwT z t ≤ t := by
  unfold nwT
  by_cases a : z < 0
  · rw [if_pos a]; omega
  · rw [if_neg a, if_neg (by omega)]
    by_cases c : z < t
    · rw [if_pos c]; omega
    · rw [if_neg c]; omega
theorem nwT_new {z t : Int} (z0 : 0 ≤ z) : 0 ≤ nwT z t ∧ nwT z t ≤ z := by
  unfold nwT
  rw [if_neg (by omega)]
  by_cases b : t < 0
  · rw [if_pos b]; omega
  · rw [if_neg b]
    by_cases c : z < t
    · rw [if_pos c]; omega
    · rw [if_neg c]; omega
theorem nwT_or (z t : Int) : nwT z t = t ∨ (nwT z t = z ∧ 0 ≤ z) := by
  unfold nwT
  by_cases a : z < 0
  · rw [if_pos a]; exact Or.inl rfl
  · rw [if_neg a]
    by_cases b : t < 0
    · rw [if_pos b]; exact Or.inr ⟨rfl, by omega⟩
    · rw [if_neg b]
      by_cases c : z < t
      · rw [if_pos c]; exact Or.inr ⟨rfl, by omega⟩
      · rw [if_neg c]; exact Or.inl rfl
/-- who is with one who has it within a part has it too -/
def WIv (D : Da) (T : Nat → Int) (s : Nat → Bool) : Prop := ∀ x y, x < D.w → y < D.w → D.go x = true → D.go y = true → s x = false → s y = false → 0 ≤ T x → T x % 27720 ≠ 0 → D.pz x (T x) = D.pz y (T x) → 0 ≤ T y ∧ T y ≤ T x
theorem CR_z {D : Da} {a b F J : Nat} (hF : F < 2 ^ 41) (hJ : J ≤ 14400) {z : Int} (z1 : -1 ≤ z) (z2 : z < 2 ^ 62) (h : D.CR a b F J (zL z)) : (z = -1 ∧ ∀ y : Nat, F ≤ y → ¬ D.pz a (y : Int) = D.pz b (y : Int)) ∨ ∃ x : Nat, z = x ∧ F ≤ x ∧ D.pz a (x : Int) = D.pz b (x : Int) ∧ ∀ y : Nat, F ≤ y → y < x → ¬ D.pz a (y : Int) = D.pz b (y : Int) := by
  rcases h with ⟨h1, h2⟩ | ⟨x, h1, h2, h3, h4, h5⟩
  · exact Or.inl ⟨(zL_m1 (by omega) (by omega)).mp h1, h2⟩
  · have t := congrArg Int64.toInt h1
    rw [zL_toInt (by omega) (by omega), pk_lT (by omega)] at t
    exact Or.inr ⟨x, t, h2, h4, h5⟩
theorem WIv.step {D : Da} {T T' : Nat → Int} {s : Nat → Bool} {x : Nat} (I : DI D) (sh : D.short) (V : WIv D T s) (hx : x < D.w) (gx : D.go x = true) (tx : 0 ≤ T x) (bx : T x < 2 ^ 40) (S : StW D (T x).toNat T (stS s x) 0 T' (fun w r => D.CR x w (T x).toNat (D.j2 x w) r)) : WIv D T' (stS s x) := by
  intro y w hy hw gy gw sy sw ty tm e
  obtain ⟨nyx, sy'⟩ := stS_f sy
  obtain ⟨nwx, sw'⟩ := stS_f sw
  obtain ⟨zy, cy, zy1, zy2, ey⟩ := S.2 y (by omega) hy gy sy
  obtain ⟨zw, cw, zw1, zw2, ew⟩ := S.2 w (by omega) hw gw sw
  rw [ew]
  rcases nwT_or zy (T y) with o | ⟨o, oz⟩
  · rw [o] at ey
    rw [ey] at ty tm e ⊢
    have v := V y w hy hw gy gw sy' sw' ty tm e
    have := nwT_old zw1 v.1
    omega
  · rw [o] at ey
    rw [ey] at e ⊢
    rcases CR_z (by omega) (short2 I sh hx hy gx gy (fun q => nyx q.symm)) zy1 (by omega) cy with ⟨q, _⟩ | ⟨y0, q, q1, q2, _⟩
    · omega
    · rw [q] at e ⊢
      have same : D.pz x (y0 : Int) = D.pz w (y0 : Int) := q2.trans e
      rcases CR_z (by omega) (short2 I sh hx hw gx gw (fun q => nwx q.symm)) zw1 (by omega) cw with ⟨_, r⟩ | ⟨w0, r, r1, r2, r3⟩
      · exact absurd same (r y0 q1)
      · have le : w0 ≤ y0 := by
          rcases Nat.lt_or_ge y0 w0 with l | l
          · exact absurd same (r3 y0 q1 l)
          · exact l
        have := nwT_new (t := T w) (show 0 ≤ zw by omega)
        omega
/-- both tell alike -/
theorem StW_same {D : Da} {T Tc Tm : Nat → Int} {s : Nat → Bool} {x : Nat} (I : DI D) (sh : D.short) (V : WIv D T s) (hx : x < D.w) (gx : D.go x = true) (sx : s x = false) (tx : 0 ≤ T x) (bx : T x < 2 ^ 40) (Sc : StW D (T x).toNat T (stS s x) 0 Tc (fun w r => D.CR x w (T x).toNat (D.j2 x w) r)) (Sm : StW D (T x).toNat T (stS s x) 0 Tm (fun w r => D.MR x w (T x).toNat (((T x).toNat / 27720 + D.j2 x w + 1) * 27720) r)) : Tc = Tm := by
  funext w
  by_cases n : 0 ≤ w ∧ w < D.w ∧ D.go w = true ∧ stS s x w = false
  · obtain ⟨n0, hw, gw, sw⟩ := n
    obtain ⟨nwx, sw'⟩ := stS_f sw
    obtain ⟨zc, c1, c2, c3, c4⟩ := Sc.2 w n0 hw gw sw
    obtain ⟨zm, m1, m2, m3, m4⟩ := Sm.2 w n0 hw gw sw
    have J := I.j2 hx hw gx gw
    have sj := short2 I sh hx hw gx gw (fun q => nwx q.symm)
    obtain ⟨F, hF⟩ : ∃ F : Nat, F = (T x).toNat := ⟨_, rfl⟩
    rw [← hF] at c1 c3 m1 m3
    rw [c4, m4]
    by_cases ok : F % 27720 = 0 ∨ ¬ D.oq x w (F / 27720)
    · have e := CR_MR I hx hw gx gw c1 m1 ok
      have := (zL_eq (by omega) (by omega) (by omega) (by omega)).mp e
      rw [this]
    · have f0 : F % 27720 ≠ 0 := fun q => ok (Or.inl q)
      have o : D.oq x w (F / 27720) := Classical.byContradiction (fun q => ok (Or.inr q))
      obtain ⟨r1, x', r2, r3, r4⟩ := CR_ov I hx hw gx gw J.1 c1 m1 f0 o
      have t1 := congrArg Int64.toInt r1
      have t2 := congrArg Int64.toInt r2
      rw [zL_toInt (by omega) (by omega), pk_lT (by omega)] at t1 t2
      have same : D.pz x (T x) = D.pz w (T x) := by
        have := (inside I hx hw gx gw (t := F / 27720) (f := F % 27720) (by omega) (by omega)).mpr (Or.inr o)
        rwa [show ((F / 27720 : Nat) : Int) * 27720 + ((F % 27720 : Nat) : Int) = T x by omega] at this
      have v := V x w hx hw gx gw sx sw' tx (by omega) same
      have e1 : nwT zc (T w) = T w := by unfold nwT; rw [if_neg (by omega), if_neg (by omega), if_neg (by omega)]
      have e2 : nwT zm (T w) = T w := by unfold nwT; rw [if_neg (by omega), if_neg (by omega), if_neg (by omega)]
      rw [e1, e2]
  · rw [Sc.1 w n, Sm.1 w n]
theorem all_set {s : Nat → Bool} {n : Nat} (h : cnt s n = n) {w : Nat} (hw : w < n) : s w = true := by
  cases q : s w
  · have h1 := cnt_stS q hw
    have h2 := cnt_le (stS s w) n
    omega
  · rfl
theorem word_loop (N : Nat) (hN : 61000 ≤ N) {D : Da} (I : DI D) (sh : D.short) {A : Nat} (hA : A < 256) : ∀ (m n c : Nat) (T : Nat → Int) (s : Nat → Bool) (μx μm : Mm), DX D μx → CrewOk D μx → DM D μm → μm.1 0 27 = nI 0 → XW T μx → MW D T s μm → WBd D T s c → WIv D T s → 8 < m + c → D.w < n + c → ∃ (Tc Tm : Nat → Int) (s' : Nat → Bool) (μx' μm' : Mm), f_Me_pass_L48 N m (nI A) (nI (wtB D s)) (nI (bsN s D.w)) (nI c) μx = some (nI (bsN s' D.w), μx') ∧ XFr μx μx' ∧ XW Tc μx' ∧ f_M_layWord_L46 N n (zI (ErT T s D.w)) μm = some μm' ∧ MFr μm μm' ∧ (∀ w, w < D.w → μm'.2 22 w = zL (Tm w)) ∧ (∀ w, s' w = true → Tm w = Tc w ∧ 0 ≤ Tc w) ∧ (∀ w, -1 ≤ Tm w ∧ Tm w < 2 ^ 40) ∧ (∀ w, -1 ≤ Tc w ∧ Tc w < 2 ^ 40) ∧ (bsN s' D.w &&& A ≠ 0 ∨ ∀ w, w < D.w → s' w = false → Tm w < 0 ∧ Tc w < 0) := by
  have w8 := I.w8
  intro m
  induction m with
  | zero => intro n c T s μx μm _ _ _ _ _ _ B _ h; have := B.c8 I; omega
  | succ m ih =>
    intro n c T s μx μm X C M e0 Wx Wm B V h1 h2
    have h8 := B.c8 I
    have hl := hvB_lt I s
    have tb := B.tb I
    obtain ⟨n, rfl⟩ : ∃ n', n = n' + 1 := ⟨n - 1, by omega⟩
    have done : ErT T s D.w = -9 → (∀ w, w < D.w → s w = false → T w < 0) → f_Me_pass_L48 N (m + 1) (nI A) (nI (wtB D s)) (nI (bsN s D.w)) (nI c) μx = some (nI (bsN s D.w), μx) → ∃ (Tc Tm : Nat → Int) (s' : Nat → Bool) (μx' μm' : Mm), f_Me_pass_L48 N (m + 1) (nI A) (nI (wtB D s)) (nI (bsN s D.w)) (nI c) μx = some (nI (bsN s' D.w), μx') ∧ XFr μx μx' ∧ XW Tc μx' ∧ f_M_layWord_L46 N (n + 1) (zI (ErT T s D.w)) μm = some μm' ∧ MFr μm μm' ∧ (∀ w, w < D.w → μm'.2 22 w = zL (Tm w)) ∧ (∀ w, s' w = true → Tm w = Tc w ∧ 0 ≤ Tc w) ∧ (∀ w, -1 ≤ Tm w ∧ Tm w < 2 ^ 40) ∧ (∀ w, -1 ≤ Tc w ∧ Tc w < 2 ^ 40) ∧ (bsN s' D.w &&& A ≠ 0 ∨ ∀ w, w < D.w → s' w = false → Tm w < 0 ∧ Tc w < 0) := by
      intro e q p
      refine ⟨T, T, s, μx, μm, p, XFr.refl _, Wx, ?_, MFr.refl _, fun w hw => (Wm w hw).1, fun w sw => ⟨rfl, (B.2.2.1 w sw).2⟩, tb, tb, Or.inr (fun w hw sw => ⟨q w hw sw, q w hw sw⟩)⟩
      rw [e, f_M_layWord_L46, if_pos (show zI (-9) = (-9 : Int32) from rfl)]
    by_cases c8 : c = 8
    · have full : ∀ w, w < D.w → s w = true := fun w hw => all_set (by rw [B.2.2.2]; omega) hw
      rcases ErT_spec T s D.w with ⟨e, q⟩ | ⟨x, x1, e, x2, x3⟩
      · refine done e q ?_
        rw [f_Me_pass_L48, if_pos (show (8 : Int32) ≤ nI c by rw [c8]; exact nI_le (Nat.le_refl 8) (by decide))]
      · rw [full x x1] at x2
        cases x2
    · by_cases nA : bsN s D.w &&& A = 0
      · rcases ErT_spec T s D.w with ⟨e, q⟩ | ⟨x, x1, e, x2, x3⟩
        · refine done e q ?_
          rw [f_Me_pass_L48, if_neg (show ¬ (8 : Int32) ≤ nI c from nI_ge (b := 8) (by omega) (by decide)), andN (by omega) (by omega), nA, if_pos (show nI 0 = (0 : Int32) from rfl), X_er_eq N (by omega) I T s μx Wx (fun w => by have := tb w; omega) B.2.1, bnS, e, if_neg (show ¬ (0 : Int32) ≤ zI (-9) by decide)]
          rfl
        · have gx := (B.2.1 x x3).2
          obtain ⟨Tc, μ1, k1, k2, k3, k4⟩ := X_step N hN I sh hA μx X C Wx B e x1 x2 x3 nA m
          obtain ⟨Tm, μ2, l1, l2, l3, l4, l5⟩ := M_step N hN I sh μm M e0 Wm B x1 x2 x3 n
          have same := StW_same I sh V x1 gx x2 x3 (tb x).2 k4 l4
          subst same
          have V' := V.step I sh x1 gx x3 (tb x).2 k4
          obtain ⟨Tc', Tm', s', μ3, μ4, p1, p2, p3, p4, p5, p6⟩ := ih n (c + 1) Tc (stS s x) μ1 μ2 (k2.dx w8 X) (k2.crew w8 C) (l2.dm M) ((l2.1 27 (by decide)).trans e0) k3 l3 l5 V' (by omega) (by omega)
          refine ⟨Tc', Tm', s', μ3, μ4, ?_, k2.trans p2, p3, ?_, l2.trans p5, p6⟩
          · rw [k1, p1]
          · rw [e, ← zI_n, l1, p4]
      · obtain ⟨T', μ2, l1, l2, l3, l4, l5⟩ := M_rest N hN I sh (n + 1) c T s μm M e0 Wm B (by omega)
        refine ⟨T, T', s, μx, μ2, ?_, XFr.refl _, Wx, l1, l2, l3, fun w sw => ⟨l4 w sw, (B.2.2.1 w sw).2⟩, l5, tb, Or.inl nA⟩
        have al : bsN s D.w &&& A < 256 := Nat.lt_of_le_of_lt Nat.and_le_left hl
        rw [f_Me_pass_L48, if_neg (show ¬ (8 : Int32) ≤ nI c from nI_ge (b := 8) (by omega) (by decide)), andN (by omega) (by omega), if_neg (nI_ne0 (by omega) (by omega))]
