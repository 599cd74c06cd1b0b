/-! PURE 13: walkers: home, view, lose, unplan, mark, planned -/
theorem RW1_congr {wo wp wr kind speed fuel post view lost gone size start ppost prest kind' speed' fuel' post' view' lost' gone' size' start' ppost' prest' : Nat → Int32} {j : Nat} (h : RW1 wo wp wr kind speed fuel post view lost gone size start ppost prest j) (e1 : kind' j = kind j) (e2 : speed' j = speed j) (e3 : fuel' j = fuel j) (e4 : post' j = post j) (e5 : view' j = view j) (e6 : lost' j = lost j) (e7 : gone' j = gone j) (e8 : size' j = size j) (e9 : start' j = start j) (ep : ∀ x, x < 24 → ppost' (24 * j + x) = ppost (24 * j + x)) (er : ∀ x, x < 24 → prest' (24 * j + x) = prest (24 * j + x)) : RW1 wo wp wr kind' speed' fuel' post' view' lost' gone' size' start' ppost' prest' j := by
  obtain ⟨a1, a2, a3, a4, a5, a6, a7, a8, a9, b1, b2, b3, b4, b5, b6, b7, b8, b9⟩ := h
  unfold RW1
  rw [e1, e2, e3, e4, e5, e6, e7, e8, e9]
  refine ⟨a1, a2, a3, a4, a5, a6, a7, a8, a9, fun i hi => ?_, b2, b3, b4, b5, b6, b7, b8, b9⟩
  have h24 : (size j).toInt ≤ 24 := by
    rcases b8 with q | q
    · rw [q]; decide
    · exact q.2
  rw [ep i (by omega), er i (by omega), ep _ (by split <;> omega)]
  exact b1 i hi
theorem Rel.walk {RC : Nat → Mm → Prop} (hR : RCok RC) {k : Nat} {μx μm μx' μm' : Mm} (h : Rel RC k μx μm) (hx : ∀ c, c < 11 ∨ 60 < c → μx'.1 c = μx.1 c) (hx2 : μx'.2 = μx.2) (hm : ∀ c, c ≠ 0 → c < 10 ∨ 20 < c → μm'.1 c = μm.1 c) (h0 : ∀ f, f ≠ 15 → μm'.1 0 f = μm.1 0 f) (hm2 : μm'.2 = μm.2) (hW : RWx μx' μm') (e4 : μx'.1 11 4 = 1) (e5 : μx'.1 11 5 = μx.1 11 5) : Rel RC (k + 1) μx' μm' := by
  obtain ⟨hT, hS, hG, _, hP, hl, hC⟩ := h
  refine ⟨RT_cells (hx 1 (by decide)) (hx 2 (by decide)) (by rw [hx2]) (h0 0 (by decide)) (h0 2 (by decide)) (hm 1 (by decide) (by decide)) (by rw [hm2]) hT, ?_, ?_, hW, RP_cells (hx 80 (by decide)) (hx 81 (by decide)) (hm 29 (by decide) (by decide)) (hm 30 (by decide) (by decide)) hP, by rw [h0 27 (by decide)]; exact hl, hR.2.2.2.2 k μx μx' hC (fun c hc => hx c (by omega)) e4 e5⟩
  · unfold RSx at hS ⊢
    rw [hx 4 (by decide), hx 5 (by decide), hm 3 (by decide) (by decide), hm 2 (by decide) (by decide)]
    exact hS
  · have x6 := hx 6 (by decide)
    exact RG_cells (by rw [x6]) (by rw [x6]) (by rw [x6]) (by rw [x6]) (hx 7 (by decide)) (hx 8 (by decide)) (hx 9 (by decide)) (h0 8 (by decide)) (h0 9 (by decide)) (hm 5 (by decide) (by decide)) (hm 6 (by decide) (by decide)) (hm 7 (by decide) (by decide)) (hm 8 (by decide) (by decide)) hG
theorem Cr_has_eq (N : Nat) {w : Nat} (hw : w ≤ 8) (a : Int32) (μ : Mm) (e : μ.1 11 1 = nI w) : f_Cr_has N a μ = some (if 0 ≤ a.toInt ∧ a.toInt < w then 1 else 0, μ) := by
  unfold f_Cr_has
  rw [e]
  have h9 := tI (show w < 2 ^ 31 by omega)
  repeat' split
  all_goals first | rfl | (exfalso; simp only [lt_I, le_I, eq_I, ixb_iff, Int32.reduceToInt, h9] at *; omega)
theorem Cr_lacks_eq (N : Nat) {j : Nat} (hj : j < 8) (μ : Mm) (hz : μ.1 (WK j) 6 = 0 ∨ μ.1 (WK j) 6 = 1) : f_Cr_lacks N (nI j) μ = some (μ.1 (WK j) 6, μ) := by
  unfold f_Cr_lacks
  rw [if_pos (ixb_t hj (by decide)), nI_clamp (by omega)]
  simp only [if_pos (zb_of hz)]
theorem Cr_changing_eq (N : Nat) {j : Nat} (hj : j < 8) (μ : Mm) : f_Cr_changing N (nI j) μ = some (j, sI μ 11 4 1) := by
  unfold f_Cr_changing
  simp only [if_pos (ixb_t hj (show 8 < 2 ^ 31 by decide)), nI_clamp (show j < 2 ^ 31 by omega)]
theorem Cr_get_eq (N : Nat) {j : Nat} (hj : j < 8) (μ : Mm) : f_Cr_get N (nI j) μ = some (j, μ) := by
  unfold f_Cr_get
  simp only [if_pos (ixb_t hj (show 8 < 2 ^ 31 by decide)), nI_clamp (show j < 2 ^ 31 by omega)]
theorem M_isWalker_eq (N : Nat) {w : Nat} (hw : w ≤ 8) (a : Int32) (μ : Mm) (e : μ.1 0 15 = nI w) : f_M_isWalker N a μ = some (if 0 ≤ a.toInt ∧ a.toInt < w then 1 else 0, μ) := by
  unfold f_M_isWalker
  rw [e, f_M_in_eq, bnS, if_pos (zb01 _ _)]
  have e9 : ((0 : Int32).toInt ≤ a.toInt ∧ a.toInt ≤ (nI w - 1).toInt) ↔ (0 ≤ a.toInt ∧ a.toInt < w) := by
    rw [show (1 : Int32) = nI 1 from rfl, pk_sub_toInt (by omega) (by decide), show (0 : Int32).toInt = 0 from rfl]
    omega
  by_cases c : 0 ≤ a.toInt ∧ a.toInt < w
  · rw [if_pos c, if_pos (e9.mpr c)]
  · rw [if_neg c, if_neg (fun q => c (e9.mp q))]
theorem M_need_no (N : Nat) {w : Nat} (hw : w ≤ 8) (g a : Int32) (μ : Mm) (e : μ.1 0 15 = nI w) (h : ¬ (0 ≤ a.toInt ∧ a.toInt < w) ∨ g = 0) : f_M_need N g a μ = some (-1, μ) := by
  unfold f_M_need f_M_need_B12
  rw [M_isWalker_eq N hw a μ e]
  simp only [bnS, if01]
  by_cases c : 0 ≤ a.toInt ∧ a.toInt < w
  · rw [if_pos c, if_pos (by rcases h with q | q; exact absurd c q; exact q)]
  · rw [if_neg c]
theorem M_need_yes (N : Nat) {w j : Nat} (hw : w ≤ 8) (hj : j < w) {g : Int32} (hg : g ≠ 0) (μ : Mm) (e : μ.1 0 15 = nI w) : f_M_need N g (nI j) μ = if μ.1 16 j = 0 then some (0, μ) else some (-3, mf μ 1) := by
  unfold f_M_need
  rw [M_isWalker_eq N hw (nI j) μ e]
  simp only [bnS, if01, md1]
  rw [if_pos (by rw [tI (by omega)]; omega), if_neg hg, if_pos (ixb_t (by omega) (by decide)), nI_clamp (by omega)]
/-- one walker is another: the rest as it was -/
theorem RW_one {μx μx' μm μm' : Mm} {w j : Nat} (hw : w ≤ 8) (hj : j < w) (h : RWx μx μm) (ew : μm.1 0 15 = nI w) (e0 : μm'.1 0 15 = nI w) (e1 : μx'.1 11 1 = μx.1 11 1) (hx : ∀ i, i < 8 → i ≠ j → ∀ d, d < 3 → μx'.1 (WK i + d) = μx.1 (WK i + d)) (hm : ∀ c, 10 ≤ c → c ≤ 17 ∨ c = 20 → ∀ i, i ≠ j → μm'.1 c i = μm.1 c i) (hp : ∀ i, i ≠ j → ∀ x, x < 24 → μm'.1 18 (24 * i + x) = μm.1 18 (24 * i + x) ∧ μm'.1 19 (24 * i + x) = μm.1 19 (24 * i + x)) (hn : RW1 (μx.1 (WK j)) (μx.1 (WK j + 1)) (μx.1 (WK j + 2)) (μm.1 10) (μm.1 11) (μm.1 12) (μm.1 13) (μm.1 14) (μm.1 15) (μm.1 16) (μm.1 17) (μm.1 20) (μm.1 18) (μm.1 19) j → RW1 (μx'.1 (WK j)) (μx'.1 (WK j + 1)) (μx'.1 (WK j + 2)) (μm'.1 10) (μm'.1 11) (μm'.1 12) (μm'.1 13) (μm'.1 14) (μm'.1 15) (μm'.1 16) (μm'.1 17) (μm'.1 20) (μm'.1 18) (μm'.1 19) j) : RWx μx' μm' := by
  obtain ⟨h1, w2, hw2, e2, hall, hrest⟩ := h
  have : w2 = w := (nI_eq (by omega) (by omega)).mp (e2.symm.trans ew)
  subst this
  refine ⟨by rw [e1, e0, h1, ew], w2, hw2, e0, fun i hi => ?_, fun i hi hi8 => ?_⟩
  · by_cases c : i = j
    · subst c
      exact hn (hall i hi)
    · have x0 := hx i (by omega) c 0 (by decide)
      have x1 := hx i (by omega) c 1 (by decide)
      have x2 := hx i (by omega) c 2 (by decide)
      rw [Nat.add_zero] at x0
      show RW1 (μx'.1 (WK i)) (μx'.1 (WK i + 1)) (μx'.1 (WK i + 2)) _ _ _ _ _ _ _ _ _ _ _ i
      rw [x0, x1, x2]
      exact RW1_congr (hall i hi) (hm 10 (by decide) (by decide) i c) (hm 11 (by decide) (by decide) i c) (hm 12 (by decide) (by decide) i c) (hm 13 (by decide) (by decide) i c) (hm 14 (by decide) (by decide) i c) (hm 15 (by decide) (by decide) i c) (hm 16 (by decide) (by decide) i c) (hm 17 (by decide) (by decide) i c) (hm 20 (by decide) (by decide) i c) (fun x hx => (hp i c x hx).1) (fun x hx => (hp i c x hx).2)
  · have x0 := hx i hi8 (by omega) 0 (by decide)
    rw [Nat.add_zero] at x0
    show μx'.1 (WK i) 4 = 0 ∧ μx'.1 (WK i) 5 = 0 ∧ μx'.1 (WK i) 6 = 0 ∧ μx'.1 (WK i) 8 = 0
    rw [x0]
    exact hrest i hi hi8
theorem WK_lt {j : Nat} (h : j < 8) : 13 ≤ WK j ∧ WK j + 5 ≤ 60 := by unfold WK; omega
theorem WK_ne {i j d : Nat} (h : i ≠ j) (hd : d < 6) : WK i + d ≠ WK j := by unfold WK; omega
/-- a field of walker j is changed, and the crew marked old -/
def chW (μ : Mm) (j f : Nat) (v : Int32) : Mm := sI (sI μ 11 4 1) (WK j) f v
theorem chW_off {μ : Mm} {j f c : Nat} {v : Int32} (h1 : c ≠ 11) (h2 : c ≠ WK j) : (chW μ j f v).1 c = μ.1 c := by
  unfold chW
  rw [sI1, if_neg h2, sI1, if_neg h1]
theorem chW_at {μ : Mm} {j f : Nat} {v : Int32} (hj : j < 8) : (chW μ j f v).1 (WK j) = upd (μ.1 (WK j)) f v := by
  have := WK_lt hj
  unfold chW
  rw [sI1, if_pos rfl, sI1, if_neg (by omega)]
theorem chW_11 {μ : Mm} {j f : Nat} {v : Int32} (hj : j < 8) : (chW μ j f v).1 11 = upd (μ.1 11) 4 1 := by
  have := WK_lt hj
  unfold chW
  rw [sI1, if_neg (by omega), sI1, if_pos rfl]
theorem Rel.field {RC : Nat → Mm → Prop} (hR : RCok RC) {k : Nat} {μx μm μm' : Mm} (h : Rel RC k μx μm) {w j f : Nat} {v : Int32} (hw : w ≤ 8) (hj : j < w) (ew : μm.1 0 15 = nI w) (hm : ∀ c, c < 10 ∨ 20 < c → μm'.1 c = μm.1 c) (hm2 : μm'.2 = μm.2) (hmi : ∀ c, 10 ≤ c → c ≤ 17 ∨ c = 20 → ∀ i, i ≠ j → μm'.1 c i = μm.1 c i) (h18 : μm'.1 18 = μm.1 18) (h19 : μm'.1 19 = μm.1 19) (hn : RW1 (μx.1 (WK j)) (μx.1 (WK j + 1)) (μx.1 (WK j + 2)) (μm.1 10) (μm.1 11) (μm.1 12) (μm.1 13) (μm.1 14) (μm.1 15) (μm.1 16) (μm.1 17) (μm.1 20) (μm.1 18) (μm.1 19) j → RW1 (upd (μx.1 (WK j)) f v) (μx.1 (WK j + 1)) (μx.1 (WK j + 2)) (μm'.1 10) (μm'.1 11) (μm'.1 12) (μm'.1 13) (μm'.1 14) (μm'.1 15) (μm'.1 16) (μm'.1 17) (μm'.1 20) (μm.1 18) (μm.1 19) j) : Rel RC (k + 1) (chW μx j f v) μm' := by
  have hj8 : j < 8 := by omega
  have hwk := WK_lt hj8
  have m0 : μm'.1 0 = μm.1 0 := hm 0 (by decide)
  refine h.walk hR (fun c hc => chW_off (by omega) (by omega)) rfl (fun c _ hc => hm c hc) (fun f _ => by rw [m0]) hm2 (RW_one hw hj h.2.2.2.1 ew (by rw [m0]; exact ew) ?_ (fun i hi hne d hd => ?_) hmi (fun i _ x _ => by rw [h18, h19]; exact ⟨rfl, rfl⟩) (fun q => ?_)) ?_ ?_
  · rw [chW_11 hj8]; rfl
  · have := WK_lt hi
    exact chW_off (by omega) (WK_ne hne (by omega))
  · rw [chW_at hj8, chW_off (by omega) (by omega), chW_off (by omega) (by omega), h18, h19]
    exact hn q
  · rw [chW_11 hj8]; rfl
  · rw [chW_11 hj8]; rfl
theorem upd_eq (f : Nat → Int32) (k : Nat) (v : Int32) : upd f k v k = v := if_pos rfl
theorem upd_ne (f : Nat → Int32) {k j : Nat} (v : Int32) (h : j ≠ k) : upd f k v j = f j := if_neg h
theorem sI_ix {μ : Mm} {c k : Nat} {v : Int32} {d i : Nat} (h : i ≠ k) : (sI μ c k v).1 d i = μ.1 d i := by
  rw [sI1]
  split
  · rename_i e; subst e; exact upd_ne _ _ h
  · rfl
theorem sm_home {RC : Nat → Mm → Prop} (hR : RCok RC) (N : Nat) : Sm_home (Rel RC) N := by
  intro k _ a1 μx μm h
  obtain ⟨h1, w, hw, ew, hall, _⟩ := id h.2.2.2.1
  unfold f_W_home f_M_home
  rw [Cr_has_eq N hw a1 μx (h1.trans ew)]
  simp only [bnS, if01]
  by_cases c : 0 ≤ a1.toInt ∧ a1.toInt < w
  · obtain ⟨j, hj, rfl⟩ := row_of w c
    have hj8 : j < 8 := by omega
    have R1 := hall j hj
    have ea : μx.1 (WK j) 6 = μm.1 16 j := R1.2.2.2.2.2.2.1
    have gz : μm.1 16 j = 0 ∨ μm.1 16 j = 1 := R1.2.2.2.2.2.2.2.2.2.2.2.2.2.2.2.1
    rw [if_pos c, Cr_lacks_eq N (by omega) μx (by rw [ea]; exact gz), M_need_yes N hw hj (by decide) μm ew, ea]
    simp only [bnS, fd1]
    by_cases c2 : μm.1 16 j = 0
    · rw [if_pos c2, if_pos c2, Cr_changing_eq N hj8]
      simp only [bnS]
      rw [if_pos hj8, if_pos (show (0 : Int32) ≤ 0 by decide), if_pos (ixb_t hj8 (by decide)), nI_clamp (by omega)]
      refine ⟨1, chW μx j 6 1, sI μm 16 j 1, rfl, rfl, h.field hR hw hj ew (fun c hc => by rw [sI1, if_neg (by omega)]) rfl (fun c _ _ i hne => sI_ix hne) rfl rfl (fun q => ?_)⟩
      obtain ⟨a1, a2, a3, a4, a5, a6, a7, a8, a9, b1, b2, b3, b4, b5, b6, b7, b8, b9⟩ := q
      exact ⟨a1, a2, a3, a4, a5, a6, (upd_eq (μm.1 16) j 1).symm, a8, a9, b1, b2, b3, b4, b5, b6, Or.inr (upd_eq (μm.1 16) j 1), b8, b9⟩
    · rw [if_neg c2, if_neg c2]
      exact ⟨_, _, _, rfl, rfl, h.found hR 1⟩
  · rw [if_neg c, M_need_no N hw 1 a1 μm ew (Or.inl c)]
    exact ⟨_, _, _, rfl, rfl, h.next hR⟩
theorem sm_lose {RC : Nat → Mm → Prop} (hR : RCok RC) (N : Nat) : Sm_lose (Rel RC) N := by
  intro k _ a1 a2 hz μx μm h
  obtain ⟨h1, w, hw, ew, hall, _⟩ := id h.2.2.2.1
  unfold f_W_lose f_M_lose f_M_lose_B27
  rw [Cr_has_eq N hw a1 μx (h1.trans ew)]
  simp only [bnS, if01]
  by_cases c : 0 ≤ a1.toInt ∧ a1.toInt < w
  · obtain ⟨j, hj, rfl⟩ := row_of w c
    have hj8 : j < 8 := by omega
    have R1 := hall j hj
    have ea : μx.1 (WK j) 6 = μm.1 16 j := R1.2.2.2.2.2.2.1
    have el : μx.1 (WK j) 5 = μm.1 15 j := R1.2.2.2.2.2.1
    have gz : μm.1 16 j = 0 ∨ μm.1 16 j = 1 := R1.2.2.2.2.2.2.2.2.2.2.2.2.2.2.2.1
    rw [if_pos c, Cr_lacks_eq N (by omega) μx (by rw [ea]; exact gz), M_need_yes N hw hj (by decide) μm ew, ea]
    simp only [bnS, fd1]
    by_cases c2 : μm.1 16 j = 0
    · rw [if_pos c2, if_pos c2, Cr_changing_eq N hj8]
      simp only [bnS]
      rw [if_pos hj8, if_pos (show (0 : Int32) ≤ 0 by decide), if_pos (ixb_t hj8 (by decide)), nI_clamp (by omega), if_pos (zb_of hz), narZ hz]
      have key : Rel RC (k + 1) (chW μx j 5 a2) (sI μm 15 j a2) := by
        refine h.field hR hw hj ew (fun c hc => by rw [sI1, if_neg (by omega)]) rfl (fun c _ _ i hne => sI_ix hne) rfl rfl (fun q => ?_)
        obtain ⟨a1, a2', a3, a4, a5, a6, a7, a8, a9, b1, b2, b3, b4, b5, b6, b7, b8, b9⟩ := q
        exact ⟨a1, a2', a3, a4, a5, (upd_eq (μm.1 15) j a2).symm, a7, a8, a9, b1, b2, b3, b4, b5, by show upd (μm.1 15) j a2 j = 0 ∨ upd (μm.1 15) j a2 j = 1; rw [upd_eq]; exact hz, b7, b8, b9⟩
      have e5 : (sI μx 11 4 1).1 (WK j) 5 = μm.1 15 j := by
        have := WK_lt hj8
        rw [sI1, if_neg (by omega), el]
      rw [e5]
      by_cases c3 : μm.1 15 j = 0
      · rw [if_pos c3, if_pos c3]
        exact ⟨_, _, _, rfl, if_pos (ixb_t hj8 (by decide)), key⟩
      · rw [if_neg c3, if_neg c3]
        exact ⟨_, _, _, rfl, if_pos (ixb_t hj8 (by decide)), key⟩
    · rw [if_neg c2, if_neg c2]
      exact ⟨_, _, _, rfl, rfl, h.found hR 1⟩
  · rw [if_neg c, M_need_no N hw 1 a1 μm ew (Or.inl c)]
    exact ⟨_, _, _, rfl, rfl, h.next hR⟩
theorem sm_view {RC : Nat → Mm → Prop} (hR : RCok RC) (N : Nat) : Sm_view (Rel RC) N := by
  intro k _ a1 a2 μx μm h
  obtain ⟨h1, w, hw, ew, hall, _⟩ := id h.2.2.2.1
  unfold f_W_view f_M_view
  rw [Cr_has_eq N hw a1 μx (h1.trans ew), f_M_in_eq]
  simp only [bnS, if01]
  have hnx := h.next hR
  by_cases c : 0 ≤ a1.toInt ∧ a1.toInt < w
  · obtain ⟨j, hj, rfl⟩ := row_of w c
    have hj8 : j < 8 := by omega
    rw [if_pos c]
    by_cases cv : 0 ≤ a2.toInt ∧ a2.toInt ≤ 40
    · rw [if_neg (show ¬ a2 < 0 by rw [lt_I, show (0 : Int32).toInt = 0 from rfl]; omega), if_pos (show a2 ≤ 40 by rw [le_I, show (40 : Int32).toInt = 40 from rfl]; omega), if_pos (show (0 : Int32).toInt ≤ a2.toInt ∧ a2.toInt ≤ (40 : Int32).toInt from cv)]
      have R1 := hall j hj
      have ea : μx.1 (WK j) 6 = μm.1 16 j := R1.2.2.2.2.2.2.1
      have el : μx.1 (WK j) 4 = μm.1 14 j := R1.2.2.2.2.1
      have gz : μm.1 16 j = 0 ∨ μm.1 16 j = 1 := R1.2.2.2.2.2.2.2.2.2.2.2.2.2.2.2.1
      rw [Cr_lacks_eq N (by omega) μx (by rw [ea]; exact gz), M_need_yes N hw hj (by decide) μm ew, ea]
      simp only [bnS, fd1]
      by_cases c2 : μm.1 16 j = 0
      · rw [if_pos c2, if_pos c2, Cr_changing_eq N hj8]
        simp only [bnS]
        rw [if_pos hj8, if_pos (show (0 : Int32) ≤ 0 by decide), if_pos (ixb_t hj8 (by decide)), if_pos (ixb_t hj8 (by decide)), nI_clamp (by omega)]
        have e5 : (sI μx 11 4 1).1 (WK j) 4 = μm.1 14 j := by
          have := WK_lt hj8
          rw [sI1, if_neg (by omega), el]
        rw [e5]
        refine ⟨_, chW μx j 4 a2, sI μm 14 j a2, rfl, rfl, h.field hR hw hj ew (fun c hc => by rw [sI1, if_neg (by omega)]) rfl (fun c _ _ i hne => sI_ix hne) rfl rfl (fun q => ?_)⟩
        obtain ⟨a1, a2', a3, a4, a5, a6, a7, a8, a9, b1, b2, b3, b4, b5, b6, b7, b8, b9⟩ := q
        exact ⟨a1, a2', a3, a4, (upd_eq (μm.1 14) j a2).symm, a6, a7, a8, a9, b1, b2, b3, b4, by show 0 ≤ (upd (μm.1 14) j a2 j).toInt ∧ (upd (μm.1 14) j a2 j).toInt ≤ 40; rw [upd_eq]; exact cv, b6, b7, b8, b9⟩
      · rw [if_neg c2, if_neg c2]
        exact ⟨_, _, _, rfl, rfl, h.found hR 1⟩
    · rw [if_neg (show ¬ ((0 : Int32).toInt ≤ a2.toInt ∧ a2.toInt ≤ (40 : Int32).toInt) from cv), M_need_no N hw 0 (nI j) μm ew (Or.inr rfl)]
      clear h hall
      repeat' split
      all_goals first | exact ⟨_, _, _, rfl, rfl, hnx⟩ | (exfalso; simp only [lt_I, le_I, eq_I, Int32.reduceToInt] at *; omega)
  · rw [if_neg c, M_need_no N hw _ a1 μm ew (Or.inl c)]
    exact ⟨_, _, _, rfl, rfl, hnx⟩
