/-! PURE 90: the start, and all together -/
theorem rel_zero : Rel (RCv TKt) 0 μX0 μM0 := by
  refine ⟨⟨rfl, rfl, rfl, rfl, fun _ _ => rfl⟩, ⟨?_, fun _ => ⟨show (-128 : Int) ≤ (0 : Int32).toInt by decide, show (0 : Int32).toInt ≤ (127 : Int) by decide⟩, fun _ => ⟨show (-128 : Int) ≤ (0 : Int32).toInt by decide, show (0 : Int32).toInt ≤ (127 : Int) by decide⟩⟩, ⟨rfl, Or.inr (Or.inr rfl), rfl, 1, by decide, by decide, rfl, ?_, ?_, fun p _ => ⟨rfl, Or.inl rfl⟩, ?_, ?_, ?_, fun h => absurd h (by decide)⟩, ⟨rfl, 0, by decide, rfl, fun j h => absurd h (by omega), ?_⟩, fun w _ => ⟨rfl, rfl⟩, rfl, ⟨0, rfl, by decide, fun _ => ⟨⟨0, by decide, rfl⟩, Or.inl rfl, ?_, ?_, ?_⟩⟩⟩
  · have e : ∀ r, r < 8 → μM0.1 2 r = -1 := fun r hr => match r, hr with | 0, _ => rfl | 1, _ => rfl | 2, _ => rfl | 3, _ => rfl | 4, _ => rfl | 5, _ => rfl | 6, _ => rfl | 7, _ => rfl | k + 8, hk => absurd hk (by omega)
    intro r hr
    refine ⟨rfl, ?_⟩
    rw [e r hr]
    exact ⟨by decide, by decide, fun i hi => absurd hi (by rw [show (-1 : Int32).toInt = -1 from rfl]; omega)⟩
  · intro a b _ _
    exact ⟨⟨show (0 : Int) ≤ (0 : Int32).toInt by decide, show (0 : Int32).toInt ≤ (30 : Int) by decide⟩, Or.inl rfl, rfl, rfl, fun _ => rfl, fun _ => rfl, fun _ => rfl, rfl⟩
  · intro p hp
    obtain rfl : p = 0 := by omega
    exact ⟨rfl, by decide, by decide⟩
  · have z : cntP (fun a b => decide (μM0.1 5 (16 * a + b) ≠ 0)) 1 1 = 0 := cntP_z (fun x y => decide_eq_false (fun q => q rfl)) 1 1
    show (0 : Int32) = nI (cntP (fun a b => decide (μM0.1 5 (16 * a + b) ≠ 0)) 1 1)
    rw [z]; rfl
  · have z : cntP (fun a b => decide (μM0.1 6 (16 * a + b) ≠ 0)) 1 1 = 0 := cntP_z (fun x y => decide_eq_false (fun q => q rfl)) 1 1
    show (0 : Int32) = nI (cntP (fun a b => decide (μM0.1 6 (16 * a + b) ≠ 0)) 1 1)
    rw [z]; rfl
  · have z : cntP (fun a b => decide (μM0.1 5 (16 * a + b) ≠ 0)) 1 1 = 0 := cntP_z (fun x y => decide_eq_false (fun q => q rfl)) 1 1
    rw [z]; decide
  · intro j _ hj
    exact match j, hj with | 0, _ => ⟨rfl, rfl, rfl, rfl⟩ | 1, _ => ⟨rfl, rfl, rfl, rfl⟩ | 2, _ => ⟨rfl, rfl, rfl, rfl⟩ | 3, _ => ⟨rfl, rfl, rfl, rfl⟩ | 4, _ => ⟨rfl, rfl, rfl, rfl⟩ | 5, _ => ⟨rfl, rfl, rfl, rfl⟩ | 6, _ => ⟨rfl, rfl, rfl, rfl⟩ | 7, _ => ⟨rfl, rfl, rfl, rfl⟩ | k + 8, hk => absurd hk (by omega)
  · intro n len _ _ h
    exact absurd (show (1 : Int32) = 0 from h) (by decide)
  · intro D _ _ h
    exact absurd (show (1 : Int32) = 0 from h) (by decide)
  · intro n len wor _ _ _ h
    exact absurd (show (-1 : Int32) = 0 from h) (by decide)
theorem sim_all (N : Nat) (hN : 61000 ≤ N) : SimAll (Rel (RCv TKt)) N := by
  have hR := RCv_ok TKt
  exact ⟨rel_zero, fun k μx μm _ h => h.next hR, sm_row hR (by omega), sm_lay hR N, sm_tear hR N, sm_copy hR (by omega), sm_mean hR (by omega), sm_fence hR (by omega), sm_net hR (by omega), sm_wall hR (by omega), sm_breaks hR N, sm_far N (by omega), sm_worth hR N, sm_base hR N, sm_walker hR N, sm_home hR N, sm_view hR N, sm_lose hR N, sm_told N (by omega), sm_mark hR N, sm_plan hR (by omega), sm_unplan hR N, sm_planned hR N, sm_fit hR N (by omega), sm_where N (by omega), sm_joint N (by omega), sm_seen N (by omega), sm_idle N (by omega), sm_idleFrom N (by omega), sm_worst N (by omega), sm_share N (by omega), sm_chance N (by omega), sm_thief N (by omega), sm_safe N (by omega), sm_peril N (by omega), sm_meet N (by omega), sm_word N (by omega), sm_spread N (by omega), sm_round N (by omega), sm_roundAt N (by omega), sm_parting hR N (by omega), sm_partOf hR N, sm_fuel hR N (by omega), sm_asked hR N, sm_upper hR N, sm_lower hR N, sm_count N (by omega), sm_finding hR N, sm_findings hR N, sm_digest N (by omega)⟩
