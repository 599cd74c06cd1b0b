/-! THE LAW: a case a call, and the loop (by program) -/
def Ok {α : Type} (R R' : Mm → Mm → Prop) (fx fm : Mm → Option (α × Mm)) : Prop := ∀ μx μm, R μx μm → ∃ (r : α) (μx' μm' : Mm), fx μx = some (r, μx') ∧ fm μm = some (r, μm') ∧ R' μx' μm'
set_option maxRecDepth 100000 in
theorem ml_L_9 : Cond.methodLink R_law 9 y_W_init ∈ TB := TB_t1 18 (by decide +kernel) (by decide +kernel)
set_option maxRecDepth 100000 in
theorem ml_L_13 : Cond.methodLink R_law 13 y_W_row ∈ TB := TB_t2 206 (by decide +kernel) (by decide +kernel)
set_option maxRecDepth 100000 in
theorem ml_L_18 : Cond.methodLink R_law 18 y_W_lay ∈ TB := TB_t2 225 (by decide +kernel) (by decide +kernel)
set_option maxRecDepth 100000 in
theorem ml_L_23 : Cond.methodLink R_law 23 y_W_tear ∈ TB := TB_t3 2 (by decide +kernel) (by decide +kernel)
set_option maxRecDepth 100000 in
theorem ml_L_28 : Cond.methodLink R_law 28 y_W_copy ∈ TB := TB_t3 10 (by decide +kernel) (by decide +kernel)
set_option maxRecDepth 100000 in
theorem ml_L_33 : Cond.methodLink R_law 33 y_W_mean ∈ TB := TB_t3 25 (by decide +kernel) (by decide +kernel)
set_option maxRecDepth 100000 in
theorem ml_L_37 : Cond.methodLink R_law 37 y_W_fence ∈ TB := TB_t3 34 (by decide +kernel) (by decide +kernel)
set_option maxRecDepth 100000 in
theorem ml_L_42 : Cond.methodLink R_law 42 y_W_net ∈ TB := TB_t3 58 (by decide +kernel) (by decide +kernel)
set_option maxRecDepth 100000 in
theorem ml_L_46 : Cond.methodLink R_law 46 y_W_wall ∈ TB := TB_t3 62 (by decide +kernel) (by decide +kernel)
set_option maxRecDepth 100000 in
theorem ml_L_50 : Cond.methodLink R_law 50 y_W_breaks ∈ TB := TB_t3 74 (by decide +kernel) (by decide +kernel)
set_option maxRecDepth 100000 in
theorem ml_L_55 : Cond.methodLink R_law 55 y_W_far ∈ TB := TB_t3 83 (by decide +kernel) (by decide +kernel)
set_option maxRecDepth 100000 in
theorem ml_L_59 : Cond.methodLink R_law 59 y_W_worth ∈ TB := TB_t3 100 (by decide +kernel) (by decide +kernel)
set_option maxRecDepth 100000 in
theorem ml_L_63 : Cond.methodLink R_law 63 y_W_base ∈ TB := TB_t3 108 (by decide +kernel) (by decide +kernel)
set_option maxRecDepth 100000 in
theorem ml_L_67 : Cond.methodLink R_law 67 y_W_walker ∈ TB := TB_t3 116 (by decide +kernel) (by decide +kernel)
set_option maxRecDepth 100000 in
theorem ml_L_71 : Cond.methodLink R_law 71 y_W_home ∈ TB := TB_t3 132 (by decide +kernel) (by decide +kernel)
set_option maxRecDepth 100000 in
theorem ml_L_75 : Cond.methodLink R_law 75 y_W_view ∈ TB := TB_t3 145 (by decide +kernel) (by decide +kernel)
set_option maxRecDepth 100000 in
theorem ml_L_79 : Cond.methodLink R_law 79 y_W_lose ∈ TB := TB_t3 149 (by decide +kernel) (by decide +kernel)
set_option maxRecDepth 100000 in
theorem ml_L_83 : Cond.methodLink R_law 83 y_W_told ∈ TB := TB_t3 153 (by decide +kernel) (by decide +kernel)
set_option maxRecDepth 100000 in
theorem ml_L_87 : Cond.methodLink R_law 87 y_W_mark ∈ TB := TB_t3 213 (by decide +kernel) (by decide +kernel)
set_option maxRecDepth 100000 in
theorem ml_L_91 : Cond.methodLink R_law 91 y_W_plan ∈ TB := TB_t3 226 (by decide +kernel) (by decide +kernel)
set_option maxRecDepth 100000 in
theorem ml_L_96 : Cond.methodLink R_law 96 y_W_unplan ∈ TB := TB_t4 2 (by decide +kernel) (by decide +kernel)
set_option maxRecDepth 100000 in
theorem ml_L_100 : Cond.methodLink R_law 100 y_W_planned ∈ TB := TB_t4 6 (by decide +kernel) (by decide +kernel)
set_option maxRecDepth 100000 in
theorem ml_L_104 : Cond.methodLink R_law 104 y_W_fit ∈ TB := TB_t4 10 (by decide +kernel) (by decide +kernel)
set_option maxRecDepth 100000 in
theorem ml_L_108 : Cond.methodLink R_law 108 y_W_where ∈ TB := TB_t4 15 (by decide +kernel) (by decide +kernel)
set_option maxRecDepth 100000 in
theorem ml_L_112 : Cond.methodLink R_law 112 y_W_joint ∈ TB := TB_t4 39 (by decide +kernel) (by decide +kernel)
set_option maxRecDepth 100000 in
theorem ml_L_117 : Cond.methodLink R_law 117 y_W_seen ∈ TB := TB_t4 50 (by decide +kernel) (by decide +kernel)
set_option maxRecDepth 100000 in
theorem ml_L_121 : Cond.methodLink R_law 121 y_W_idle ∈ TB := TB_t4 69 (by decide +kernel) (by decide +kernel)
set_option maxRecDepth 100000 in
theorem ml_L_125 : Cond.methodLink R_law 125 y_W_idleFrom ∈ TB := TB_t4 139 (by decide +kernel) (by decide +kernel)
set_option maxRecDepth 100000 in
theorem ml_L_129 : Cond.methodLink R_law 129 y_W_worst ∈ TB := TB_t4 147 (by decide +kernel) (by decide +kernel)
set_option maxRecDepth 100000 in
theorem ml_L_133 : Cond.methodLink R_law 133 y_W_share ∈ TB := TB_t4 173 (by decide +kernel) (by decide +kernel)
set_option maxRecDepth 100000 in
theorem ml_L_137 : Cond.methodLink R_law 137 y_W_chance ∈ TB := TB_t4 186 (by decide +kernel) (by decide +kernel)
set_option maxRecDepth 100000 in
theorem ml_L_141 : Cond.methodLink R_law 141 y_W_thief ∈ TB := TB_t4 197 (by decide +kernel) (by decide +kernel)
set_option maxRecDepth 100000 in
theorem ml_L_145 : Cond.methodLink R_law 145 y_W_safe ∈ TB := TB_t4 210 (by decide +kernel) (by decide +kernel)
set_option maxRecDepth 100000 in
theorem ml_L_149 : Cond.methodLink R_law 149 y_W_peril ∈ TB := TB_t4 218 (by decide +kernel) (by decide +kernel)
set_option maxRecDepth 100000 in
theorem ml_L_153 : Cond.methodLink R_law 153 y_W_meet ∈ TB := TB_t4 238 (by decide +kernel) (by decide +kernel)
set_option maxRecDepth 100000 in
theorem ml_L_157 : Cond.methodLink R_law 157 y_W_word ∈ TB := TB_t5 61 (by decide +kernel) (by decide +kernel)
set_option maxRecDepth 100000 in
theorem ml_L_161 : Cond.methodLink R_law 161 y_W_spread ∈ TB := TB_t5 87 (by decide +kernel) (by decide +kernel)
set_option maxRecDepth 100000 in
theorem ml_L_165 : Cond.methodLink R_law 165 y_W_round ∈ TB := TB_t5 91 (by decide +kernel) (by decide +kernel)
set_option maxRecDepth 100000 in
theorem ml_L_169 : Cond.methodLink R_law 169 y_W_roundAt ∈ TB := TB_t5 136 (by decide +kernel) (by decide +kernel)
set_option maxRecDepth 100000 in
theorem ml_L_173 : Cond.methodLink R_law 173 y_W_parting ∈ TB := TB_t5 144 (by decide +kernel) (by decide +kernel)
set_option maxRecDepth 100000 in
theorem ml_L_177 : Cond.methodLink R_law 177 y_W_partOf ∈ TB := TB_t5 193 (by decide +kernel) (by decide +kernel)
set_option maxRecDepth 100000 in
theorem ml_L_181 : Cond.methodLink R_law 181 y_W_fuel ∈ TB := TB_t5 197 (by decide +kernel) (by decide +kernel)
set_option maxRecDepth 100000 in
theorem ml_L_185 : Cond.methodLink R_law 185 y_W_asked ∈ TB := TB_t5 202 (by decide +kernel) (by decide +kernel)
set_option maxRecDepth 100000 in
theorem ml_L_189 : Cond.methodLink R_law 189 y_W_upper ∈ TB := TB_t5 206 (by decide +kernel) (by decide +kernel)
set_option maxRecDepth 100000 in
theorem ml_L_194 : Cond.methodLink R_law 194 y_W_lower ∈ TB := TB_t5 210 (by decide +kernel) (by decide +kernel)
set_option maxRecDepth 100000 in
theorem ml_L_198 : Cond.methodLink R_law 198 y_W_count ∈ TB := TB_t5 214 (by decide +kernel) (by decide +kernel)
set_option maxRecDepth 100000 in
theorem ml_L_202 : Cond.methodLink R_law 202 y_W_finding ∈ TB := TB_t5 223 (by decide +kernel) (by decide +kernel)
set_option maxRecDepth 100000 in
theorem ml_L_206 : Cond.methodLink R_law 206 y_W_findings ∈ TB := TB_t5 227 (by decide +kernel) (by decide +kernel)
set_option maxRecDepth 100000 in
theorem ml_L_210 : Cond.methodLink R_law 210 y_W_digest ∈ TB := TB_t5 231 (by decide +kernel) (by decide +kernel)
set_option maxRecDepth 100000 in
theorem ml_L_12 : Cond.methodLink R_law 12 y_M_init ∈ TB := TB_t6 23 (by decide +kernel) (by decide +kernel)
set_option maxRecDepth 100000 in
theorem ml_L_205 : Cond.methodLink R_law 205 y_M_finding ∈ TB := TB_t6 196 (by decide +kernel) (by decide +kernel)
set_option maxRecDepth 100000 in
theorem ml_L_209 : Cond.methodLink R_law 209 y_M_findings ∈ TB := TB_t6 200 (by decide +kernel) (by decide +kernel)
set_option maxRecDepth 100000 in
theorem ml_L_188 : Cond.methodLink R_law 188 y_M_asked ∈ TB := TB_t6 207 (by decide +kernel) (by decide +kernel)
set_option maxRecDepth 100000 in
theorem ml_L_193 : Cond.methodLink R_law 193 y_M_upper ∈ TB := TB_t6 211 (by decide +kernel) (by decide +kernel)
set_option maxRecDepth 100000 in
theorem ml_L_197 : Cond.methodLink R_law 197 y_M_lower ∈ TB := TB_t6 215 (by decide +kernel) (by decide +kernel)
set_option maxRecDepth 100000 in
theorem ml_L_17 : Cond.methodLink R_law 17 y_M_row ∈ TB := TB_t6 219 (by decide +kernel) (by decide +kernel)
set_option maxRecDepth 100000 in
theorem ml_L_22 : Cond.methodLink R_law 22 y_M_lay ∈ TB := TB_t6 230 (by decide +kernel) (by decide +kernel)
set_option maxRecDepth 100000 in
theorem ml_L_27 : Cond.methodLink R_law 27 y_M_tear ∈ TB := TB_t6 238 (by decide +kernel) (by decide +kernel)
set_option maxRecDepth 100000 in
theorem ml_L_32 : Cond.methodLink R_law 32 y_M_copy ∈ TB := TB_t7 2 (by decide +kernel) (by decide +kernel)
set_option maxRecDepth 100000 in
theorem ml_L_36 : Cond.methodLink R_law 36 y_M_mean ∈ TB := TB_t7 6 (by decide +kernel) (by decide +kernel)
set_option maxRecDepth 100000 in
theorem ml_L_41 : Cond.methodLink R_law 41 y_M_fence ∈ TB := TB_t7 10 (by decide +kernel) (by decide +kernel)
set_option maxRecDepth 100000 in
theorem ml_L_45 : Cond.methodLink R_law 45 y_M_net ∈ TB := TB_t7 22 (by decide +kernel) (by decide +kernel)
set_option maxRecDepth 100000 in
theorem ml_L_49 : Cond.methodLink R_law 49 y_M_wall ∈ TB := TB_t7 26 (by decide +kernel) (by decide +kernel)
set_option maxRecDepth 100000 in
theorem ml_L_54 : Cond.methodLink R_law 54 y_M_breaks ∈ TB := TB_t7 38 (by decide +kernel) (by decide +kernel)
set_option maxRecDepth 100000 in
theorem ml_L_58 : Cond.methodLink R_law 58 y_M_far ∈ TB := TB_t7 42 (by decide +kernel) (by decide +kernel)
set_option maxRecDepth 100000 in
theorem ml_L_62 : Cond.methodLink R_law 62 y_M_worth ∈ TB := TB_t7 51 (by decide +kernel) (by decide +kernel)
set_option maxRecDepth 100000 in
theorem ml_L_66 : Cond.methodLink R_law 66 y_M_base ∈ TB := TB_t7 55 (by decide +kernel) (by decide +kernel)
set_option maxRecDepth 100000 in
theorem ml_L_70 : Cond.methodLink R_law 70 y_M_walker ∈ TB := TB_t7 59 (by decide +kernel) (by decide +kernel)
set_option maxRecDepth 100000 in
theorem ml_L_74 : Cond.methodLink R_law 74 y_M_home ∈ TB := TB_t7 63 (by decide +kernel) (by decide +kernel)
set_option maxRecDepth 100000 in
theorem ml_L_78 : Cond.methodLink R_law 78 y_M_view ∈ TB := TB_t7 75 (by decide +kernel) (by decide +kernel)
set_option maxRecDepth 100000 in
theorem ml_L_82 : Cond.methodLink R_law 82 y_M_lose ∈ TB := TB_t7 79 (by decide +kernel) (by decide +kernel)
set_option maxRecDepth 100000 in
theorem ml_L_86 : Cond.methodLink R_law 86 y_M_told ∈ TB := TB_t7 83 (by decide +kernel) (by decide +kernel)
set_option maxRecDepth 100000 in
theorem ml_L_90 : Cond.methodLink R_law 90 y_M_mark ∈ TB := TB_t7 123 (by decide +kernel) (by decide +kernel)
set_option maxRecDepth 100000 in
theorem ml_L_95 : Cond.methodLink R_law 95 y_M_plan ∈ TB := TB_t7 127 (by decide +kernel) (by decide +kernel)
set_option maxRecDepth 100000 in
theorem ml_L_99 : Cond.methodLink R_law 99 y_M_unplan ∈ TB := TB_t7 131 (by decide +kernel) (by decide +kernel)
set_option maxRecDepth 100000 in
theorem ml_L_103 : Cond.methodLink R_law 103 y_M_planned ∈ TB := TB_t7 135 (by decide +kernel) (by decide +kernel)
set_option maxRecDepth 100000 in
theorem ml_L_107 : Cond.methodLink R_law 107 y_M_fit ∈ TB := TB_t7 139 (by decide +kernel) (by decide +kernel)
set_option maxRecDepth 100000 in
theorem ml_L_111 : Cond.methodLink R_law 111 y_M_where ∈ TB := TB_t7 143 (by decide +kernel) (by decide +kernel)
set_option maxRecDepth 100000 in
theorem ml_L_116 : Cond.methodLink R_law 116 y_M_joint ∈ TB := TB_t7 152 (by decide +kernel) (by decide +kernel)
set_option maxRecDepth 100000 in
theorem ml_L_120 : Cond.methodLink R_law 120 y_M_seen ∈ TB := TB_t7 164 (by decide +kernel) (by decide +kernel)
set_option maxRecDepth 100000 in
theorem ml_L_124 : Cond.methodLink R_law 124 y_M_idle ∈ TB := TB_t7 184 (by decide +kernel) (by decide +kernel)
set_option maxRecDepth 100000 in
theorem ml_L_128 : Cond.methodLink R_law 128 y_M_idleFrom ∈ TB := TB_t7 200 (by decide +kernel) (by decide +kernel)
set_option maxRecDepth 100000 in
theorem ml_L_132 : Cond.methodLink R_law 132 y_M_worst ∈ TB := TB_t7 204 (by decide +kernel) (by decide +kernel)
set_option maxRecDepth 100000 in
theorem ml_L_136 : Cond.methodLink R_law 136 y_M_share ∈ TB := TB_t7 212 (by decide +kernel) (by decide +kernel)
set_option maxRecDepth 100000 in
theorem ml_L_140 : Cond.methodLink R_law 140 y_M_chance ∈ TB := TB_t7 220 (by decide +kernel) (by decide +kernel)
set_option maxRecDepth 100000 in
theorem ml_L_144 : Cond.methodLink R_law 144 y_M_thief ∈ TB := TB_t7 227 (by decide +kernel) (by decide +kernel)
set_option maxRecDepth 100000 in
theorem ml_L_148 : Cond.methodLink R_law 148 y_M_safe ∈ TB := TB_t7 231 (by decide +kernel) (by decide +kernel)
set_option maxRecDepth 100000 in
theorem ml_L_152 : Cond.methodLink R_law 152 y_M_peril ∈ TB := TB_t7 235 (by decide +kernel) (by decide +kernel)
set_option maxRecDepth 100000 in
theorem ml_L_156 : Cond.methodLink R_law 156 y_M_meet ∈ TB := TB_t8 2 (by decide +kernel) (by decide +kernel)
set_option maxRecDepth 100000 in
theorem ml_L_160 : Cond.methodLink R_law 160 y_M_word ∈ TB := TB_t8 32 (by decide +kernel) (by decide +kernel)
set_option maxRecDepth 100000 in
theorem ml_L_164 : Cond.methodLink R_law 164 y_M_spread ∈ TB := TB_t8 44 (by decide +kernel) (by decide +kernel)
set_option maxRecDepth 100000 in
theorem ml_L_168 : Cond.methodLink R_law 168 y_M_round ∈ TB := TB_t8 48 (by decide +kernel) (by decide +kernel)
set_option maxRecDepth 100000 in
theorem ml_L_172 : Cond.methodLink R_law 172 y_M_roundAt ∈ TB := TB_t8 68 (by decide +kernel) (by decide +kernel)
set_option maxRecDepth 100000 in
theorem ml_L_176 : Cond.methodLink R_law 176 y_M_parting ∈ TB := TB_t8 72 (by decide +kernel) (by decide +kernel)
set_option maxRecDepth 100000 in
theorem ml_L_180 : Cond.methodLink R_law 180 y_M_partOf ∈ TB := TB_t8 80 (by decide +kernel) (by decide +kernel)
set_option maxRecDepth 100000 in
theorem ml_L_184 : Cond.methodLink R_law 184 y_M_fuel ∈ TB := TB_t8 84 (by decide +kernel) (by decide +kernel)
set_option maxRecDepth 100000 in
theorem ml_L_201 : Cond.methodLink R_law 201 y_M_count ∈ TB := TB_t8 88 (by decide +kernel) (by decide +kernel)
set_option maxRecDepth 100000 in
theorem ml_L_213 : Cond.methodLink R_law 213 y_M_digest ∈ TB := TB_t8 96 (by decide +kernel) (by decide +kernel)
def Sm_row (Rel : Nat → Mm → Mm → Prop) (N : Nat) : Prop := ∀ k, k < 512 → ∀ (a1 : Int32) (a2 : Int32), Ok (Rel k) (Rel (k + 1)) (f_W_row N a1 a2) (f_M_row N a1 a2)
set_option maxHeartbeats 4000000 in
theorem lc_0 {dA : Nat → ClassId} {D : va_G} {aX aM : Nat → Nat} {p : Program} {l : Launch} {e : Env} {s : State} {m : MethodId} {b L : Nat} {xs : Nat → Int32} {below : List Frame} {meth : Method} {c : Code} (C : ClL dA D aX aM p s m meth c b L xs) (hL : L ≤ 3072) {Rel : Nat → Mm → Mm → Prop} {N : Nat} (S : Sm_row Rel N) {k : Nat} (hk : k < 512) (h6 : 6 * k + 6 ≤ L) {μx μm : Mm} (hrel : Rel k μx μm) {lv : Nat → Option Value} (hl0 : lv 0 = some (.ref b)) (hl1 : lv 1 = some (.ref (aX 0))) (hl2 : lv 2 = some (.ref (aM 0))) (hl3 : lv 3 = some (.int (nI (6 * k)))) (K : ∀ μ1 μ2, Rel (k + 1) μ1 μ2 → GL dA D aX aM p l e s m b below meth c 1693 lv [] μ1 μ2) : GL dA D aX aM p l e s m b below meth c 240 lv [] μx μm := by
  obtain ⟨r, μ1, μ2, hx, hm, hr⟩ := S k hk (xs (6 * k + 1)) (xs (6 * k + 2))  μx μm hrel
  refine l_aload_n C d_L_240 rfl hl1 ?_
  refine l_aload_n C d_L_241 rfl hl0 ?_
  refine l_iload_n C d_L_242 rfl hl3 ?_
  refine l_iconst (v := 1) C d_L_243 (by decide) ?_
  refine l_iadd C d_L_244 ?_
  refine l_sld C (6 * k + 1) (nI_add _ 1) (by omega) hL d_L_245 ?_
  refine l_aload_n C d_L_246 rfl hl0 ?_
  refine l_iload_n C d_L_247 rfl hl3 ?_
  refine l_iconst (v := 2) C d_L_248 (by decide) ?_
  refine l_iadd C d_L_249 ?_
  refine l_sld C (6 * k + 2) (nI_add _ 2) (by omega) hL d_L_250 ?_
  refine l_cxI C mv_W_row ml_L_13 d_L_251 (t_W_row C.2.2.1 hx) rfl rfl (by decide) (Nat.le_of_ble_eq_true rfl) ?_
  refine l_aload_n C d_L_254 rfl hl2 ?_
  refine l_aload_n C d_L_255 rfl hl0 ?_
  refine l_iload_n C d_L_256 rfl hl3 ?_
  refine l_iconst (v := 1) C d_L_257 (by decide) ?_
  refine l_iadd C d_L_258 ?_
  refine l_sld C (6 * k + 1) (nI_add _ 1) (by omega) hL d_L_259 ?_
  refine l_aload_n C d_L_260 rfl hl0 ?_
  refine l_iload_n C d_L_261 rfl hl3 ?_
  refine l_iconst (v := 2) C d_L_262 (by decide) ?_
  refine l_iadd C d_L_263 ?_
  refine l_sld C (6 * k + 2) (nI_add _ 2) (by omega) hL d_L_264 ?_
  refine l_cmI C mv_M_row ml_L_17 d_L_265 (t_M_row C.2.2.2.1 hm) rfl rfl (by decide) (Nat.le_of_ble_eq_true rfl) ?_
  refine l_eq (tgt := 1693) C d_L_268 (by decide) ?_
  exact K _ _ hr
def Sm_lay (Rel : Nat → Mm → Mm → Prop) (N : Nat) : Prop := ∀ k, k < 512 → ∀ (a1 : Int32) (a2 : Int32) (a3 : Int32), Ok (Rel k) (Rel (k + 1)) (f_W_lay N a1 a2 a3) (f_M_lay N a1 a2 a3)
set_option maxHeartbeats 4000000 in
theorem lc_1 {dA : Nat → ClassId} {D : va_G} {aX aM : Nat → Nat} {p : Program} {l : Launch} {e : Env} {s : State} {m : MethodId} {b L : Nat} {xs : Nat → Int32} {below : List Frame} {meth : Method} {c : Code} (C : ClL dA D aX aM p s m meth c b L xs) (hL : L ≤ 3072) {Rel : Nat → Mm → Mm → Prop} {N : Nat} (S : Sm_lay Rel N) {k : Nat} (hk : k < 512) (h6 : 6 * k + 6 ≤ L) {μx μm : Mm} (hrel : Rel k μx μm) {lv : Nat → Option Value} (hl0 : lv 0 = some (.ref b)) (hl1 : lv 1 = some (.ref (aX 0))) (hl2 : lv 2 = some (.ref (aM 0))) (hl3 : lv 3 = some (.int (nI (6 * k)))) (K : ∀ μ1 μ2, Rel (k + 1) μ1 μ2 → GL dA D aX aM p l e s m b below meth c 1693 lv [] μ1 μ2) : GL dA D aX aM p l e s m b below meth c 273 lv [] μx μm := by
  obtain ⟨r, μ1, μ2, hx, hm, hr⟩ := S k hk (xs (6 * k + 1)) (xs (6 * k + 2)) (xs (6 * k + 3))  μx μm hrel
  refine l_aload_n C d_L_273 rfl hl1 ?_
  refine l_aload_n C d_L_274 rfl hl0 ?_
  refine l_iload_n C d_L_275 rfl hl3 ?_
  refine l_iconst (v := 1) C d_L_276 (by decide) ?_
  refine l_iadd C d_L_277 ?_
  refine l_sld C (6 * k + 1) (nI_add _ 1) (by omega) hL d_L_278 ?_
  refine l_aload_n C d_L_279 rfl hl0 ?_
  refine l_iload_n C d_L_280 rfl hl3 ?_
  refine l_iconst (v := 2) C d_L_281 (by decide) ?_
  refine l_iadd C d_L_282 ?_
  refine l_sld C (6 * k + 2) (nI_add _ 2) (by omega) hL d_L_283 ?_
  refine l_aload_n C d_L_284 rfl hl0 ?_
  refine l_iload_n C d_L_285 rfl hl3 ?_
  refine l_iconst (v := 3) C d_L_286 (by decide) ?_
  refine l_iadd C d_L_287 ?_
  refine l_sld C (6 * k + 3) (nI_add _ 3) (by omega) hL d_L_288 ?_
  refine l_cxI C mv_W_lay ml_L_18 d_L_289 (t_W_lay C.2.2.1 hx) rfl rfl (by decide) (Nat.le_of_ble_eq_true rfl) ?_
  refine l_aload_n C d_L_292 rfl hl2 ?_
  refine l_aload_n C d_L_293 rfl hl0 ?_
  refine l_iload_n C d_L_294 rfl hl3 ?_
  refine l_iconst (v := 1) C d_L_295 (by decide) ?_
  refine l_iadd C d_L_296 ?_
  refine l_sld C (6 * k + 1) (nI_add _ 1) (by omega) hL d_L_297 ?_
  refine l_aload_n C d_L_298 rfl hl0 ?_
  refine l_iload_n C d_L_299 rfl hl3 ?_
  refine l_iconst (v := 2) C d_L_300 (by decide) ?_
  refine l_iadd C d_L_301 ?_
  refine l_sld C (6 * k + 2) (nI_add _ 2) (by omega) hL d_L_302 ?_
  refine l_aload_n C d_L_303 rfl hl0 ?_
  refine l_iload_n C d_L_304 rfl hl3 ?_
  refine l_iconst (v := 3) C d_L_305 (by decide) ?_
  refine l_iadd C d_L_306 ?_
  refine l_sld C (6 * k + 3) (nI_add _ 3) (by omega) hL d_L_307 ?_
  refine l_cmI C mv_M_lay ml_L_22 d_L_308 (t_M_lay C.2.2.2.1 hm) rfl rfl (by decide) (Nat.le_of_ble_eq_true rfl) ?_
  refine l_eq (tgt := 1693) C d_L_311 (by decide) ?_
  exact K _ _ hr
def Sm_tear (Rel : Nat → Mm → Mm → Prop) (N : Nat) : Prop := ∀ k, k < 512 → ∀ (a1 : Int32), Ok (Rel k) (Rel (k + 1)) (f_W_tear N a1) (f_M_tear N a1)
set_option maxHeartbeats 4000000 in
theorem lc_2 {dA : Nat → ClassId} {D : va_G} {aX aM : Nat → Nat} {p : Program} {l : Launch} {e : Env} {s : State} {m : MethodId} {b L : Nat} {xs : Nat → Int32} {below : List Frame} {meth : Method} {c : Code} (C : ClL dA D aX aM p s m meth c b L xs) (hL : L ≤ 3072) {Rel : Nat → Mm → Mm → Prop} {N : Nat} (S : Sm_tear Rel N) {k : Nat} (hk : k < 512) (h6 : 6 * k + 6 ≤ L) {μx μm : Mm} (hrel : Rel k μx μm) {lv : Nat → Option Value} (hl0 : lv 0 = some (.ref b)) (hl1 : lv 1 = some (.ref (aX 0))) (hl2 : lv 2 = some (.ref (aM 0))) (hl3 : lv 3 = some (.int (nI (6 * k)))) (K : ∀ μ1 μ2, Rel (k + 1) μ1 μ2 → GL dA D aX aM p l e s m b below meth c 1693 lv [] μ1 μ2) : GL dA D aX aM p l e s m b below meth c 316 lv [] μx μm := by
  obtain ⟨r, μ1, μ2, hx, hm, hr⟩ := S k hk (xs (6 * k + 1))  μx μm hrel
  refine l_aload_n C d_L_316 rfl hl1 ?_
  refine l_aload_n C d_L_317 rfl hl0 ?_
  refine l_iload_n C d_L_318 rfl hl3 ?_
  refine l_iconst (v := 1) C d_L_319 (by decide) ?_
  refine l_iadd C d_L_320 ?_
  refine l_sld C (6 * k + 1) (nI_add _ 1) (by omega) hL d_L_321 ?_
  refine l_cxI C mv_W_tear ml_L_23 d_L_322 (t_W_tear C.2.2.1 hx) rfl rfl (by decide) (Nat.le_of_ble_eq_true rfl) ?_
  refine l_aload_n C d_L_325 rfl hl2 ?_
  refine l_aload_n C d_L_326 rfl hl0 ?_
  refine l_iload_n C d_L_327 rfl hl3 ?_
  refine l_iconst (v := 1) C d_L_328 (by decide) ?_
  refine l_iadd C d_L_329 ?_
  refine l_sld C (6 * k + 1) (nI_add _ 1) (by omega) hL d_L_330 ?_
  refine l_cmI C mv_M_tear ml_L_27 d_L_331 (t_M_tear C.2.2.2.1 hm) rfl rfl (by decide) (Nat.le_of_ble_eq_true rfl) ?_
  refine l_eq (tgt := 1693) C d_L_334 (by decide) ?_
  exact K _ _ hr
def Sm_copy (Rel : Nat → Mm → Mm → Prop) (N : Nat) : Prop := ∀ k, k < 512 → ∀ (a1 : Int32) (a2 : Int32) (a3 : Int32) (a4 : Int32) (a5 : Int32), Ok (Rel k) (Rel (k + 1)) (f_W_copy N a1 a2 a3 a4 a5) (f_M_copy N a1 a2 a3 a4 a5)
set_option maxHeartbeats 4000000 in
theorem lc_3 {dA : Nat → ClassId} {D : va_G} {aX aM : Nat → Nat} {p : Program} {l : Launch} {e : Env} {s : State} {m : MethodId} {b L : Nat} {xs : Nat → Int32} {below : List Frame} {meth : Method} {c : Code} (C : ClL dA D aX aM p s m meth c b L xs) (hL : L ≤ 3072) {Rel : Nat → Mm → Mm → Prop} {N : Nat} (S : Sm_copy Rel N) {k : Nat} (hk : k < 512) (h6 : 6 * k + 6 ≤ L) {μx μm : Mm} (hrel : Rel k μx μm) {lv : Nat → Option Value} (hl0 : lv 0 = some (.ref b)) (hl1 : lv 1 = some (.ref (aX 0))) (hl2 : lv 2 = some (.ref (aM 0))) (hl3 : lv 3 = some (.int (nI (6 * k)))) (K : ∀ μ1 μ2, Rel (k + 1) μ1 μ2 → GL dA D aX aM p l e s m b below meth c 1693 lv [] μ1 μ2) : GL dA D aX aM p l e s m b below meth c 339 lv [] μx μm := by
  obtain ⟨r, μ1, μ2, hx, hm, hr⟩ := S k hk (xs (6 * k + 1)) (xs (6 * k + 2)) (xs (6 * k + 3)) (xs (6 * k + 4)) (xs (6 * k + 5))  μx μm hrel
  refine l_aload_n C d_L_339 rfl hl1 ?_
  refine l_aload_n C d_L_340 rfl hl0 ?_
  refine l_iload_n C d_L_341 rfl hl3 ?_
  refine l_iconst (v := 1) C d_L_342 (by decide) ?_
  refine l_iadd C d_L_343 ?_
  refine l_sld C (6 * k + 1) (nI_add _ 1) (by omega) hL d_L_344 ?_
  refine l_aload_n C d_L_345 rfl hl0 ?_
  refine l_iload_n C d_L_346 rfl hl3 ?_
  refine l_iconst (v := 2) C d_L_347 (by decide) ?_
  refine l_iadd C d_L_348 ?_
  refine l_sld C (6 * k + 2) (nI_add _ 2) (by omega) hL d_L_349 ?_
  refine l_aload_n C d_L_350 rfl hl0 ?_
  refine l_iload_n C d_L_351 rfl hl3 ?_
  refine l_iconst (v := 3) C d_L_352 (by decide) ?_
  refine l_iadd C d_L_353 ?_
  refine l_sld C (6 * k + 3) (nI_add _ 3) (by omega) hL d_L_354 ?_
  refine l_aload_n C d_L_355 rfl hl0 ?_
  refine l_iload_n C d_L_356 rfl hl3 ?_
  refine l_iconst (v := 4) C d_L_357 (by decide) ?_
  refine l_iadd C d_L_358 ?_
  refine l_sld C (6 * k + 4) (nI_add _ 4) (by omega) hL d_L_359 ?_
  refine l_aload_n C d_L_360 rfl hl0 ?_
  refine l_iload_n C d_L_361 rfl hl3 ?_
  refine l_iconst (v := 5) C d_L_362 (by decide) ?_
  refine l_iadd C d_L_363 ?_
  refine l_sld C (6 * k + 5) (nI_add _ 5) (by omega) hL d_L_364 ?_
  refine l_cxI C mv_W_copy ml_L_28 d_L_365 (t_W_copy C.2.2.1 hx) rfl rfl (by decide) (Nat.le_of_ble_eq_true rfl) ?_
  refine l_aload_n C d_L_368 rfl hl2 ?_
  refine l_aload_n C d_L_369 rfl hl0 ?_
  refine l_iload_n C d_L_370 rfl hl3 ?_
  refine l_iconst (v := 1) C d_L_371 (by decide) ?_
  refine l_iadd C d_L_372 ?_
  refine l_sld C (6 * k + 1) (nI_add _ 1) (by omega) hL d_L_373 ?_
  refine l_aload_n C d_L_374 rfl hl0 ?_
  refine l_iload_n C d_L_375 rfl hl3 ?_
  refine l_iconst (v := 2) C d_L_376 (by decide) ?_
  refine l_iadd C d_L_377 ?_
  refine l_sld C (6 * k + 2) (nI_add _ 2) (by omega) hL d_L_378 ?_
  refine l_aload_n C d_L_379 rfl hl0 ?_
  refine l_iload_n C d_L_380 rfl hl3 ?_
  refine l_iconst (v := 3) C d_L_381 (by decide) ?_
  refine l_iadd C d_L_382 ?_
  refine l_sld C (6 * k + 3) (nI_add _ 3) (by omega) hL d_L_383 ?_
  refine l_aload_n C d_L_384 rfl hl0 ?_
  refine l_iload_n C d_L_385 rfl hl3 ?_
  refine l_iconst (v := 4) C d_L_386 (by decide) ?_
  refine l_iadd C d_L_387 ?_
  refine l_sld C (6 * k + 4) (nI_add _ 4) (by omega) hL d_L_388 ?_
  refine l_aload_n C d_L_389 rfl hl0 ?_
  refine l_iload_n C d_L_390 rfl hl3 ?_
  refine l_iconst (v := 5) C d_L_391 (by decide) ?_
  refine l_iadd C d_L_392 ?_
  refine l_sld C (6 * k + 5) (nI_add _ 5) (by omega) hL d_L_393 ?_
  refine l_cmI C mv_M_copy ml_L_32 d_L_394 (t_M_copy C.2.2.2.1 hm) rfl rfl (by decide) (Nat.le_of_ble_eq_true rfl) ?_
  refine l_eq (tgt := 1693) C d_L_397 (by decide) ?_
  exact K _ _ hr
def Sm_mean (Rel : Nat → Mm → Mm → Prop) (N : Nat) : Prop := ∀ k, k < 512 → ∀ (a1 : Int32), Ok (Rel k) (Rel (k + 1)) (f_W_mean N a1) (f_M_mean N a1)
set_option maxHeartbeats 4000000 in
theorem lc_4 {dA : Nat → ClassId} {D : va_G} {aX aM : Nat → Nat} {p : Program} {l : Launch} {e : Env} {s : State} {m : MethodId} {b L : Nat} {xs : Nat → Int32} {below : List Frame} {meth : Method} {c : Code} (C : ClL dA D aX aM p s m meth c b L xs) (hL : L ≤ 3072) {Rel : Nat → Mm → Mm → Prop} {N : Nat} (S : Sm_mean Rel N) {k : Nat} (hk : k < 512) (h6 : 6 * k + 6 ≤ L) {μx μm : Mm} (hrel : Rel k μx μm) {lv : Nat → Option Value} (hl0 : lv 0 = some (.ref b)) (hl1 : lv 1 = some (.ref (aX 0))) (hl2 : lv 2 = some (.ref (aM 0))) (hl3 : lv 3 = some (.int (nI (6 * k)))) (K : ∀ μ1 μ2, Rel (k + 1) μ1 μ2 → GL dA D aX aM p l e s m b below meth c 1693 lv [] μ1 μ2) : GL dA D aX aM p l e s m b below meth c 402 lv [] μx μm := by
  obtain ⟨r, μ1, μ2, hx, hm, hr⟩ := S k hk (xs (6 * k + 1))  μx μm hrel
  refine l_aload_n C d_L_402 rfl hl1 ?_
  refine l_aload_n C d_L_403 rfl hl0 ?_
  refine l_iload_n C d_L_404 rfl hl3 ?_
  refine l_iconst (v := 1) C d_L_405 (by decide) ?_
  refine l_iadd C d_L_406 ?_
  refine l_sld C (6 * k + 1) (nI_add _ 1) (by omega) hL d_L_407 ?_
  refine l_cxI C mv_W_mean ml_L_33 d_L_408 (t_W_mean C.2.2.1 hx) rfl rfl (by decide) (Nat.le_of_ble_eq_true rfl) ?_
  refine l_aload_n C d_L_411 rfl hl2 ?_
  refine l_aload_n C d_L_412 rfl hl0 ?_
  refine l_iload_n C d_L_413 rfl hl3 ?_
  refine l_iconst (v := 1) C d_L_414 (by decide) ?_
  refine l_iadd C d_L_415 ?_
  refine l_sld C (6 * k + 1) (nI_add _ 1) (by omega) hL d_L_416 ?_
  refine l_cmI C mv_M_mean ml_L_36 d_L_417 (t_M_mean C.2.2.2.1 hm) rfl rfl (by decide) (Nat.le_of_ble_eq_true rfl) ?_
  refine l_eq (tgt := 1693) C d_L_420 (by decide) ?_
  exact K _ _ hr
def Sm_fence (Rel : Nat → Mm → Mm → Prop) (N : Nat) : Prop := ∀ k, k < 512 → ∀ (a1 : Int32) (a2 : Int32), (a2 = 0 ∨ a2 = 1) → Ok (Rel k) (Rel (k + 1)) (f_W_fence N a1 a2) (f_M_fence N a1 a2)
set_option maxHeartbeats 4000000 in
theorem lc_5 {dA : Nat → ClassId} {D : va_G} {aX aM : Nat → Nat} {p : Program} {l : Launch} {e : Env} {s : State} {m : MethodId} {b L : Nat} {xs : Nat → Int32} {below : List Frame} {meth : Method} {c : Code} (C : ClL dA D aX aM p s m meth c b L xs) (hL : L ≤ 3072) {Rel : Nat → Mm → Mm → Prop} {N : Nat} (S : Sm_fence Rel N) {k : Nat} (hk : k < 512) (h6 : 6 * k + 6 ≤ L) {μx μm : Mm} (hrel : Rel k μx μm) {lv : Nat → Option Value} (hl0 : lv 0 = some (.ref b)) (hl1 : lv 1 = some (.ref (aX 0))) (hl2 : lv 2 = some (.ref (aM 0))) (hl3 : lv 3 = some (.int (nI (6 * k)))) (K : ∀ μ1 μ2, Rel (k + 1) μ1 μ2 → GL dA D aX aM p l e s m b below meth c 1693 lv [] μ1 μ2) : GL dA D aX aM p l e s m b below meth c 425 lv [] μx μm := by
  by_cases hz1 : xs (6 * k + 2) = 0
  · obtain ⟨r, μ1, μ2, hx, hm, hr⟩ := S k hk (xs (6 * k + 1)) (0) (Or.inl rfl) μx μm hrel
    refine l_aload_n C d_L_425 rfl hl1 ?_
    refine l_aload_n C d_L_426 rfl hl0 ?_
    refine l_iload_n C d_L_427 rfl hl3 ?_
    refine l_iconst (v := 1) C d_L_428 (by decide) ?_
    refine l_iadd C d_L_429 ?_
    refine l_sld C (6 * k + 1) (nI_add _ 1) (by omega) hL d_L_430 ?_
    refine l_aload_n C d_L_431 rfl hl0 ?_
    refine l_iload_n C d_L_432 rfl hl3 ?_
    refine l_iconst (v := 2) C d_L_433 (by decide) ?_
    refine l_iadd C d_L_434 ?_
    refine l_sld C (6 * k + 2) (nI_add _ 2) (by omega) hL d_L_435 ?_
    refine l_if0 (tgt := 443) C d_L_436 (by decide) (fun _ => ?_) (fun q => absurd hz1 q)
    refine l_iconst (v := 0) C d_L_443 (by decide) ?_
    refine l_cxI C mv_W_fence ml_L_37 d_L_444 (t_W_fence C.2.2.1 hx) rfl rfl (by decide) (Nat.le_of_ble_eq_true rfl) ?_
    refine l_aload_n C d_L_447 rfl hl2 ?_
    refine l_aload_n C d_L_448 rfl hl0 ?_
    refine l_iload_n C d_L_449 rfl hl3 ?_
    refine l_iconst (v := 1) C d_L_450 (by decide) ?_
    refine l_iadd C d_L_451 ?_
    refine l_sld C (6 * k + 1) (nI_add _ 1) (by omega) hL d_L_452 ?_
    refine l_aload_n C d_L_453 rfl hl0 ?_
    refine l_iload_n C d_L_454 rfl hl3 ?_
    refine l_iconst (v := 2) C d_L_455 (by decide) ?_
    refine l_iadd C d_L_456 ?_
    refine l_sld C (6 * k + 2) (nI_add _ 2) (by omega) hL d_L_457 ?_
    refine l_if0 (tgt := 465) C d_L_458 (by decide) (fun _ => ?_) (fun q => absurd hz1 q)
    refine l_iconst (v := 0) C d_L_465 (by decide) ?_
    refine l_cmI C mv_M_fence ml_L_41 d_L_466 (t_M_fence C.2.2.2.1 hm) rfl rfl (by decide) (Nat.le_of_ble_eq_true rfl) ?_
    refine l_eq (tgt := 1693) C d_L_469 (by decide) ?_
    exact K _ _ hr
  · obtain ⟨r, μ1, μ2, hx, hm, hr⟩ := S k hk (xs (6 * k + 1)) (1) (Or.inr rfl) μx μm hrel
    refine l_aload_n C d_L_425 rfl hl1 ?_
    refine l_aload_n C d_L_426 rfl hl0 ?_
    refine l_iload_n C d_L_427 rfl hl3 ?_
    refine l_iconst (v := 1) C d_L_428 (by decide) ?_
    refine l_iadd C d_L_429 ?_
    refine l_sld C (6 * k + 1) (nI_add _ 1) (by omega) hL d_L_430 ?_
    refine l_aload_n C d_L_431 rfl hl0 ?_
    refine l_iload_n C d_L_432 rfl hl3 ?_
    refine l_iconst (v := 2) C d_L_433 (by decide) ?_
    refine l_iadd C d_L_434 ?_
    refine l_sld C (6 * k + 2) (nI_add _ 2) (by omega) hL d_L_435 ?_
    refine l_if0 (tgt := 443) C d_L_436 (by decide) (fun q => absurd q hz1) (fun _ => ?_)
    refine l_iconst (v := 1) C d_L_439 (by decide) ?_
    refine l_goto (tgt := 444) C d_L_440 (by decide) ?_
    refine l_cxI C mv_W_fence ml_L_37 d_L_444 (t_W_fence C.2.2.1 hx) rfl rfl (by decide) (Nat.le_of_ble_eq_true rfl) ?_
    refine l_aload_n C d_L_447 rfl hl2 ?_
    refine l_aload_n C d_L_448 rfl hl0 ?_
    refine l_iload_n C d_L_449 rfl hl3 ?_
    refine l_iconst (v := 1) C d_L_450 (by decide) ?_
    refine l_iadd C d_L_451 ?_
    refine l_sld C (6 * k + 1) (nI_add _ 1) (by omega) hL d_L_452 ?_
    refine l_aload_n C d_L_453 rfl hl0 ?_
    refine l_iload_n C d_L_454 rfl hl3 ?_
    refine l_iconst (v := 2) C d_L_455 (by decide) ?_
    refine l_iadd C d_L_456 ?_
    refine l_sld C (6 * k + 2) (nI_add _ 2) (by omega) hL d_L_457 ?_
    refine l_if0 (tgt := 465) C d_L_458 (by decide) (fun q => absurd q hz1) (fun _ => ?_)
    refine l_iconst (v := 1) C d_L_461 (by decide) ?_
    refine l_goto (tgt := 466) C d_L_462 (by decide) ?_
    refine l_cmI C mv_M_fence ml_L_41 d_L_466 (t_M_fence C.2.2.2.1 hm) rfl rfl (by decide) (Nat.le_of_ble_eq_true rfl) ?_
    refine l_eq (tgt := 1693) C d_L_469 (by decide) ?_
    exact K _ _ hr
def Sm_net (Rel : Nat → Mm → Mm → Prop) (N : Nat) : Prop := ∀ k, k < 512 → ∀ (a1 : Int32), Ok (Rel k) (Rel (k + 1)) (f_W_net N a1) (f_M_net N a1)
set_option maxHeartbeats 4000000 in
theorem lc_6 {dA : Nat → ClassId} {D : va_G} {aX aM : Nat → Nat} {p : Program} {l : Launch} {e : Env} {s : State} {m : MethodId} {b L : Nat} {xs : Nat → Int32} {below : List Frame} {meth : Method} {c : Code} (C : ClL dA D aX aM p s m meth c b L xs) (hL : L ≤ 3072) {Rel : Nat → Mm → Mm → Prop} {N : Nat} (S : Sm_net Rel N) {k : Nat} (hk : k < 512) (h6 : 6 * k + 6 ≤ L) {μx μm : Mm} (hrel : Rel k μx μm) {lv : Nat → Option Value} (hl0 : lv 0 = some (.ref b)) (hl1 : lv 1 = some (.ref (aX 0))) (hl2 : lv 2 = some (.ref (aM 0))) (hl3 : lv 3 = some (.int (nI (6 * k)))) (K : ∀ μ1 μ2, Rel (k + 1) μ1 μ2 → GL dA D aX aM p l e s m b below meth c 1693 lv [] μ1 μ2) : GL dA D aX aM p l e s m b below meth c 474 lv [] μx μm := by
  obtain ⟨r, μ1, μ2, hx, hm, hr⟩ := S k hk (xs (6 * k + 1))  μx μm hrel
  refine l_aload_n C d_L_474 rfl hl1 ?_
  refine l_aload_n C d_L_475 rfl hl0 ?_
  refine l_iload_n C d_L_476 rfl hl3 ?_
  refine l_iconst (v := 1) C d_L_477 (by decide) ?_
  refine l_iadd C d_L_478 ?_
  refine l_sld C (6 * k + 1) (nI_add _ 1) (by omega) hL d_L_479 ?_
  refine l_cxI C mv_W_net ml_L_42 d_L_480 (t_W_net C.2.2.1 hx) rfl rfl (by decide) (Nat.le_of_ble_eq_true rfl) ?_
  refine l_aload_n C d_L_483 rfl hl2 ?_
  refine l_aload_n C d_L_484 rfl hl0 ?_
  refine l_iload_n C d_L_485 rfl hl3 ?_
  refine l_iconst (v := 1) C d_L_486 (by decide) ?_
  refine l_iadd C d_L_487 ?_
  refine l_sld C (6 * k + 1) (nI_add _ 1) (by omega) hL d_L_488 ?_
  refine l_cmI C mv_M_net ml_L_45 d_L_489 (t_M_net C.2.2.2.1 hm) rfl rfl (by decide) (Nat.le_of_ble_eq_true rfl) ?_
  refine l_eq (tgt := 1693) C d_L_492 (by decide) ?_
  exact K _ _ hr
def Sm_wall (Rel : Nat → Mm → Mm → Prop) (N : Nat) : Prop := ∀ k, k < 512 → ∀ (a1 : Int32) (a2 : Int32) (a3 : Int32), Ok (Rel k) (Rel (k + 1)) (f_W_wall N a1 a2 a3) (f_M_wall N a1 a2 a3)
set_option maxHeartbeats 4000000 in
theorem lc_7 {dA : Nat → ClassId} {D : va_G} {aX aM : Nat → Nat} {p : Program} {l : Launch} {e : Env} {s : State} {m : MethodId} {b L : Nat} {xs : Nat → Int32} {below : List Frame} {meth : Method} {c : Code} (C : ClL dA D aX aM p s m meth c b L xs) (hL : L ≤ 3072) {Rel : Nat → Mm → Mm → Prop} {N : Nat} (S : Sm_wall Rel N) {k : Nat} (hk : k < 512) (h6 : 6 * k + 6 ≤ L) {μx μm : Mm} (hrel : Rel k μx μm) {lv : Nat → Option Value} (hl0 : lv 0 = some (.ref b)) (hl1 : lv 1 = some (.ref (aX 0))) (hl2 : lv 2 = some (.ref (aM 0))) (hl3 : lv 3 = some (.int (nI (6 * k)))) (K : ∀ μ1 μ2, Rel (k + 1) μ1 μ2 → GL dA D aX aM p l e s m b below meth c 1693 lv [] μ1 μ2) : GL dA D aX aM p l e s m b below meth c 497 lv [] μx μm := by
  obtain ⟨r, μ1, μ2, hx, hm, hr⟩ := S k hk (xs (6 * k + 1)) (xs (6 * k + 2)) (xs (6 * k + 3))  μx μm hrel
  refine l_aload_n C d_L_497 rfl hl1 ?_
  refine l_aload_n C d_L_498 rfl hl0 ?_
  refine l_iload_n C d_L_499 rfl hl3 ?_
  refine l_iconst (v := 1) C d_L_500 (by decide) ?_
  refine l_iadd C d_L_501 ?_
  refine l_sld C (6 * k + 1) (nI_add _ 1) (by omega) hL d_L_502 ?_
  refine l_aload_n C d_L_503 rfl hl0 ?_
  refine l_iload_n C d_L_504 rfl hl3 ?_
  refine l_iconst (v := 2) C d_L_505 (by decide) ?_
  refine l_iadd C d_L_506 ?_
  refine l_sld C (6 * k + 2) (nI_add _ 2) (by omega) hL d_L_507 ?_
  refine l_aload_n C d_L_508 rfl hl0 ?_
  refine l_iload_n C d_L_509 rfl hl3 ?_
  refine l_iconst (v := 3) C d_L_510 (by decide) ?_
  refine l_iadd C d_L_511 ?_
  refine l_sld C (6 * k + 3) (nI_add _ 3) (by omega) hL d_L_512 ?_
  refine l_cxI C mv_W_wall ml_L_46 d_L_513 (t_W_wall C.2.2.1 hx) rfl rfl (by decide) (Nat.le_of_ble_eq_true rfl) ?_
  refine l_aload_n C d_L_516 rfl hl2 ?_
  refine l_aload_n C d_L_517 rfl hl0 ?_
  refine l_iload_n C d_L_518 rfl hl3 ?_
  refine l_iconst (v := 1) C d_L_519 (by decide) ?_
  refine l_iadd C d_L_520 ?_
  refine l_sld C (6 * k + 1) (nI_add _ 1) (by omega) hL d_L_521 ?_
  refine l_aload_n C d_L_522 rfl hl0 ?_
  refine l_iload_n C d_L_523 rfl hl3 ?_
  refine l_iconst (v := 2) C d_L_524 (by decide) ?_
  refine l_iadd C d_L_525 ?_
  refine l_sld C (6 * k + 2) (nI_add _ 2) (by omega) hL d_L_526 ?_
  refine l_aload_n C d_L_527 rfl hl0 ?_
  refine l_iload_n C d_L_528 rfl hl3 ?_
  refine l_iconst (v := 3) C d_L_529 (by decide) ?_
  refine l_iadd C d_L_530 ?_
  refine l_sld C (6 * k + 3) (nI_add _ 3) (by omega) hL d_L_531 ?_
  refine l_cmI C mv_M_wall ml_L_49 d_L_532 (t_M_wall C.2.2.2.1 hm) rfl rfl (by decide) (Nat.le_of_ble_eq_true rfl) ?_
  refine l_eq (tgt := 1693) C d_L_535 (by decide) ?_
  exact K _ _ hr
def Sm_breaks (Rel : Nat → Mm → Mm → Prop) (N : Nat) : Prop := ∀ k, k < 512 → ∀ (a1 : Int32) (a2 : Int32) (a3 : Int32), (a3 = 0 ∨ a3 = 1) → Ok (Rel k) (Rel (k + 1)) (f_W_breaks N a1 a2 a3) (f_M_breaks N a1 a2 a3)
set_option maxHeartbeats 4000000 in
theorem lc_8 {dA : Nat → ClassId} {D : va_G} {aX aM : Nat → Nat} {p : Program} {l : Launch} {e : Env} {s : State} {m : MethodId} {b L : Nat} {xs : Nat → Int32} {below : List Frame} {meth : Method} {c : Code} (C : ClL dA D aX aM p s m meth c b L xs) (hL : L ≤ 3072) {Rel : Nat → Mm → Mm → Prop} {N : Nat} (S : Sm_breaks Rel N) {k : Nat} (hk : k < 512) (h6 : 6 * k + 6 ≤ L) {μx μm : Mm} (hrel : Rel k μx μm) {lv : Nat → Option Value} (hl0 : lv 0 = some (.ref b)) (hl1 : lv 1 = some (.ref (aX 0))) (hl2 : lv 2 = some (.ref (aM 0))) (hl3 : lv 3 = some (.int (nI (6 * k)))) (K : ∀ μ1 μ2, Rel (k + 1) μ1 μ2 → GL dA D aX aM p l e s m b below meth c 1693 lv [] μ1 μ2) : GL dA D aX aM p l e s m b below meth c 540 lv [] μx μm := by
  by_cases hz2 : xs (6 * k + 3) = 0
  · obtain ⟨r, μ1, μ2, hx, hm, hr⟩ := S k hk (xs (6 * k + 1)) (xs (6 * k + 2)) (0) (Or.inl rfl) μx μm hrel
    refine l_aload_n C d_L_540 rfl hl1 ?_
    refine l_aload_n C d_L_541 rfl hl0 ?_
    refine l_iload_n C d_L_542 rfl hl3 ?_
    refine l_iconst (v := 1) C d_L_543 (by decide) ?_
    refine l_iadd C d_L_544 ?_
    refine l_sld C (6 * k + 1) (nI_add _ 1) (by omega) hL d_L_545 ?_
    refine l_aload_n C d_L_546 rfl hl0 ?_
    refine l_iload_n C d_L_547 rfl hl3 ?_
    refine l_iconst (v := 2) C d_L_548 (by decide) ?_
    refine l_iadd C d_L_549 ?_
    refine l_sld C (6 * k + 2) (nI_add _ 2) (by omega) hL d_L_550 ?_
    refine l_aload_n C d_L_551 rfl hl0 ?_
    refine l_iload_n C d_L_552 rfl hl3 ?_
    refine l_iconst (v := 3) C d_L_553 (by decide) ?_
    refine l_iadd C d_L_554 ?_
    refine l_sld C (6 * k + 3) (nI_add _ 3) (by omega) hL d_L_555 ?_
    refine l_if0 (tgt := 563) C d_L_556 (by decide) (fun _ => ?_) (fun q => absurd hz2 q)
    refine l_iconst (v := 0) C d_L_563 (by decide) ?_
    refine l_cxI C mv_W_breaks ml_L_50 d_L_564 (t_W_breaks C.2.2.1 hx) rfl rfl (by decide) (Nat.le_of_ble_eq_true rfl) ?_
    refine l_aload_n C d_L_567 rfl hl2 ?_
    refine l_aload_n C d_L_568 rfl hl0 ?_
    refine l_iload_n C d_L_569 rfl hl3 ?_
    refine l_iconst (v := 1) C d_L_570 (by decide) ?_
    refine l_iadd C d_L_571 ?_
    refine l_sld C (6 * k + 1) (nI_add _ 1) (by omega) hL d_L_572 ?_
    refine l_aload_n C d_L_573 rfl hl0 ?_
    refine l_iload_n C d_L_574 rfl hl3 ?_
    refine l_iconst (v := 2) C d_L_575 (by decide) ?_
    refine l_iadd C d_L_576 ?_
    refine l_sld C (6 * k + 2) (nI_add _ 2) (by omega) hL d_L_577 ?_
    refine l_aload_n C d_L_578 rfl hl0 ?_
    refine l_iload_n C d_L_579 rfl hl3 ?_
    refine l_iconst (v := 3) C d_L_580 (by decide) ?_
    refine l_iadd C d_L_581 ?_
    refine l_sld C (6 * k + 3) (nI_add _ 3) (by omega) hL d_L_582 ?_
    refine l_if0 (tgt := 590) C d_L_583 (by decide) (fun _ => ?_) (fun q => absurd hz2 q)
    refine l_iconst (v := 0) C d_L_590 (by decide) ?_
    refine l_cmI C mv_M_breaks ml_L_54 d_L_591 (t_M_breaks C.2.2.2.1 hm) rfl rfl (by decide) (Nat.le_of_ble_eq_true rfl) ?_
    refine l_eq (tgt := 1693) C d_L_594 (by decide) ?_
    exact K _ _ hr
  · obtain ⟨r, μ1, μ2, hx, hm, hr⟩ := S k hk (xs (6 * k + 1)) (xs (6 * k + 2)) (1) (Or.inr rfl) μx μm hrel
    refine l_aload_n C d_L_540 rfl hl1 ?_
    refine l_aload_n C d_L_541 rfl hl0 ?_
    refine l_iload_n C d_L_542 rfl hl3 ?_
    refine l_iconst (v := 1) C d_L_543 (by decide) ?_
    refine l_iadd C d_L_544 ?_
    refine l_sld C (6 * k + 1) (nI_add _ 1) (by omega) hL d_L_545 ?_
    refine l_aload_n C d_L_546 rfl hl0 ?_
    refine l_iload_n C d_L_547 rfl hl3 ?_
    refine l_iconst (v := 2) C d_L_548 (by decide) ?_
    refine l_iadd C d_L_549 ?_
    refine l_sld C (6 * k + 2) (nI_add _ 2) (by omega) hL d_L_550 ?_
    refine l_aload_n C d_L_551 rfl hl0 ?_
    refine l_iload_n C d_L_552 rfl hl3 ?_
    refine l_iconst (v := 3) C d_L_553 (by decide) ?_
    refine l_iadd C d_L_554 ?_
    refine l_sld C (6 * k + 3) (nI_add _ 3) (by omega) hL d_L_555 ?_
    refine l_if0 (tgt := 563) C d_L_556 (by decide) (fun q => absurd q hz2) (fun _ => ?_)
    refine l_iconst (v := 1) C d_L_559 (by decide) ?_
    refine l_goto (tgt := 564) C d_L_560 (by decide) ?_
    refine l_cxI C mv_W_breaks ml_L_50 d_L_564 (t_W_breaks C.2.2.1 hx) rfl rfl (by decide) (Nat.le_of_ble_eq_true rfl) ?_
    refine l_aload_n C d_L_567 rfl hl2 ?_
    refine l_aload_n C d_L_568 rfl hl0 ?_
    refine l_iload_n C d_L_569 rfl hl3 ?_
    refine l_iconst (v := 1) C d_L_570 (by decide) ?_
    refine l_iadd C d_L_571 ?_
    refine l_sld C (6 * k + 1) (nI_add _ 1) (by omega) hL d_L_572 ?_
    refine l_aload_n C d_L_573 rfl hl0 ?_
    refine l_iload_n C d_L_574 rfl hl3 ?_
    refine l_iconst (v := 2) C d_L_575 (by decide) ?_
    refine l_iadd C d_L_576 ?_
    refine l_sld C (6 * k + 2) (nI_add _ 2) (by omega) hL d_L_577 ?_
    refine l_aload_n C d_L_578 rfl hl0 ?_
    refine l_iload_n C d_L_579 rfl hl3 ?_
    refine l_iconst (v := 3) C d_L_580 (by decide) ?_
    refine l_iadd C d_L_581 ?_
    refine l_sld C (6 * k + 3) (nI_add _ 3) (by omega) hL d_L_582 ?_
    refine l_if0 (tgt := 590) C d_L_583 (by decide) (fun q => absurd q hz2) (fun _ => ?_)
    refine l_iconst (v := 1) C d_L_586 (by decide) ?_
    refine l_goto (tgt := 591) C d_L_587 (by decide) ?_
    refine l_cmI C mv_M_breaks ml_L_54 d_L_591 (t_M_breaks C.2.2.2.1 hm) rfl rfl (by decide) (Nat.le_of_ble_eq_true rfl) ?_
    refine l_eq (tgt := 1693) C d_L_594 (by decide) ?_
    exact K _ _ hr
def Sm_far (Rel : Nat → Mm → Mm → Prop) (N : Nat) : Prop := ∀ k, k < 512 → ∀ (a1 : Int32) (a2 : Int32), Ok (Rel k) (Rel (k + 1)) (f_W_far N a1 a2) (f_M_far N a1 a2)
set_option maxHeartbeats 4000000 in
theorem lc_9 {dA : Nat → ClassId} {D : va_G} {aX aM : Nat → Nat} {p : Program} {l : Launch} {e : Env} {s : State} {m : MethodId} {b L : Nat} {xs : Nat → Int32} {below : List Frame} {meth : Method} {c : Code} (C : ClL dA D aX aM p s m meth c b L xs) (hL : L ≤ 3072) {Rel : Nat → Mm → Mm → Prop} {N : Nat} (S : Sm_far Rel N) {k : Nat} (hk : k < 512) (h6 : 6 * k + 6 ≤ L) {μx μm : Mm} (hrel : Rel k μx μm) {lv : Nat → Option Value} (hl0 : lv 0 = some (.ref b)) (hl1 : lv 1 = some (.ref (aX 0))) (hl2 : lv 2 = some (.ref (aM 0))) (hl3 : lv 3 = some (.int (nI (6 * k)))) (K : ∀ μ1 μ2, Rel (k + 1) μ1 μ2 → GL dA D aX aM p l e s m b below meth c 1693 lv [] μ1 μ2) : GL dA D aX aM p l e s m b below meth c 599 lv [] μx μm := by
  obtain ⟨r, μ1, μ2, hx, hm, hr⟩ := S k hk (xs (6 * k + 1)) (xs (6 * k + 2))  μx μm hrel
  refine l_aload_n C d_L_599 rfl hl1 ?_
  refine l_aload_n C d_L_600 rfl hl0 ?_
  refine l_iload_n C d_L_601 rfl hl3 ?_
  refine l_iconst (v := 1) C d_L_602 (by decide) ?_
  refine l_iadd C d_L_603 ?_
  refine l_sld C (6 * k + 1) (nI_add _ 1) (by omega) hL d_L_604 ?_
  refine l_aload_n C d_L_605 rfl hl0 ?_
  refine l_iload_n C d_L_606 rfl hl3 ?_
  refine l_iconst (v := 2) C d_L_607 (by decide) ?_
  refine l_iadd C d_L_608 ?_
  refine l_sld C (6 * k + 2) (nI_add _ 2) (by omega) hL d_L_609 ?_
  refine l_cxI C mv_W_far ml_L_55 d_L_610 (t_W_far C.2.2.1 hx) rfl rfl (by decide) (Nat.le_of_ble_eq_true rfl) ?_
  refine l_aload_n C d_L_613 rfl hl2 ?_
  refine l_aload_n C d_L_614 rfl hl0 ?_
  refine l_iload_n C d_L_615 rfl hl3 ?_
  refine l_iconst (v := 1) C d_L_616 (by decide) ?_
  refine l_iadd C d_L_617 ?_
  refine l_sld C (6 * k + 1) (nI_add _ 1) (by omega) hL d_L_618 ?_
  refine l_aload_n C d_L_619 rfl hl0 ?_
  refine l_iload_n C d_L_620 rfl hl3 ?_
  refine l_iconst (v := 2) C d_L_621 (by decide) ?_
  refine l_iadd C d_L_622 ?_
  refine l_sld C (6 * k + 2) (nI_add _ 2) (by omega) hL d_L_623 ?_
  refine l_cmI C mv_M_far ml_L_58 d_L_624 (t_M_far C.2.2.2.1 hm) rfl rfl (by decide) (Nat.le_of_ble_eq_true rfl) ?_
  refine l_eq (tgt := 1693) C d_L_627 (by decide) ?_
  exact K _ _ hr
def Sm_worth (Rel : Nat → Mm → Mm → Prop) (N : Nat) : Prop := ∀ k, k < 512 → ∀ (a1 : Int32) (a2 : Int32), Ok (Rel k) (Rel (k + 1)) (f_W_worth N a1 a2) (f_M_worth N a1 a2)
set_option maxHeartbeats 4000000 in
theorem lc_10 {dA : Nat → ClassId} {D : va_G} {aX aM : Nat → Nat} {p : Program} {l : Launch} {e : Env} {s : State} {m : MethodId} {b L : Nat} {xs : Nat → Int32} {below : List Frame} {meth : Method} {c : Code} (C : ClL dA D aX aM p s m meth c b L xs) (hL : L ≤ 3072) {Rel : Nat → Mm → Mm → Prop} {N : Nat} (S : Sm_worth Rel N) {k : Nat} (hk : k < 512) (h6 : 6 * k + 6 ≤ L) {μx μm : Mm} (hrel : Rel k μx μm) {lv : Nat → Option Value} (hl0 : lv 0 = some (.ref b)) (hl1 : lv 1 = some (.ref (aX 0))) (hl2 : lv 2 = some (.ref (aM 0))) (hl3 : lv 3 = some (.int (nI (6 * k)))) (K : ∀ μ1 μ2, Rel (k + 1) μ1 μ2 → GL dA D aX aM p l e s m b below meth c 1693 lv [] μ1 μ2) : GL dA D aX aM p l e s m b below meth c 632 lv [] μx μm := by
  obtain ⟨r, μ1, μ2, hx, hm, hr⟩ := S k hk (xs (6 * k + 1)) (xs (6 * k + 2))  μx μm hrel
  refine l_aload_n C d_L_632 rfl hl1 ?_
  refine l_aload_n C d_L_633 rfl hl0 ?_
  refine l_iload_n C d_L_634 rfl hl3 ?_
  refine l_iconst (v := 1) C d_L_635 (by decide) ?_
  refine l_iadd C d_L_636 ?_
  refine l_sld C (6 * k + 1) (nI_add _ 1) (by omega) hL d_L_637 ?_
  refine l_aload_n C d_L_638 rfl hl0 ?_
  refine l_iload_n C d_L_639 rfl hl3 ?_
  refine l_iconst (v := 2) C d_L_640 (by decide) ?_
  refine l_iadd C d_L_641 ?_
  refine l_sld C (6 * k + 2) (nI_add _ 2) (by omega) hL d_L_642 ?_
  refine l_cxI C mv_W_worth ml_L_59 d_L_643 (t_W_worth C.2.2.1 hx) rfl rfl (by decide) (Nat.le_of_ble_eq_true rfl) ?_
  refine l_aload_n C d_L_646 rfl hl2 ?_
  refine l_aload_n C d_L_647 rfl hl0 ?_
  refine l_iload_n C d_L_648 rfl hl3 ?_
  refine l_iconst (v := 1) C d_L_649 (by decide) ?_
  refine l_iadd C d_L_650 ?_
  refine l_sld C (6 * k + 1) (nI_add _ 1) (by omega) hL d_L_651 ?_
  refine l_aload_n C d_L_652 rfl hl0 ?_
  refine l_iload_n C d_L_653 rfl hl3 ?_
  refine l_iconst (v := 2) C d_L_654 (by decide) ?_
  refine l_iadd C d_L_655 ?_
  refine l_sld C (6 * k + 2) (nI_add _ 2) (by omega) hL d_L_656 ?_
  refine l_cmI C mv_M_worth ml_L_62 d_L_657 (t_M_worth C.2.2.2.1 hm) rfl rfl (by decide) (Nat.le_of_ble_eq_true rfl) ?_
  refine l_eq (tgt := 1693) C d_L_660 (by decide) ?_
  exact K _ _ hr
def Sm_base (Rel : Nat → Mm → Mm → Prop) (N : Nat) : Prop := ∀ k, k < 512 → ∀ (a1 : Int32) (a2 : Int32), (a2 = 0 ∨ a2 = 1) → Ok (Rel k) (Rel (k + 1)) (f_W_base N a1 a2) (f_M_base N a1 a2)
set_option maxHeartbeats 4000000 in
theorem lc_11 {dA : Nat → ClassId} {D : va_G} {aX aM : Nat → Nat} {p : Program} {l : Launch} {e : Env} {s : State} {m : MethodId} {b L : Nat} {xs : Nat → Int32} {below : List Frame} {meth : Method} {c : Code} (C : ClL dA D aX aM p s m meth c b L xs) (hL : L ≤ 3072) {Rel : Nat → Mm → Mm → Prop} {N : Nat} (S : Sm_base Rel N) {k : Nat} (hk : k < 512) (h6 : 6 * k + 6 ≤ L) {μx μm : Mm} (hrel : Rel k μx μm) {lv : Nat → Option Value} (hl0 : lv 0 = some (.ref b)) (hl1 : lv 1 = some (.ref (aX 0))) (hl2 : lv 2 = some (.ref (aM 0))) (hl3 : lv 3 = some (.int (nI (6 * k)))) (K : ∀ μ1 μ2, Rel (k + 1) μ1 μ2 → GL dA D aX aM p l e s m b below meth c 1693 lv [] μ1 μ2) : GL dA D aX aM p l e s m b below meth c 665 lv [] μx μm := by
  by_cases hz1 : xs (6 * k + 2) = 0
  · obtain ⟨r, μ1, μ2, hx, hm, hr⟩ := S k hk (xs (6 * k + 1)) (0) (Or.inl rfl) μx μm hrel
    refine l_aload_n C d_L_665 rfl hl1 ?_
    refine l_aload_n C d_L_666 rfl hl0 ?_
    refine l_iload_n C d_L_667 rfl hl3 ?_
    refine l_iconst (v := 1) C d_L_668 (by decide) ?_
    refine l_iadd C d_L_669 ?_
    refine l_sld C (6 * k + 1) (nI_add _ 1) (by omega) hL d_L_670 ?_
    refine l_aload_n C d_L_671 rfl hl0 ?_
    refine l_iload_n C d_L_672 rfl hl3 ?_
    refine l_iconst (v := 2) C d_L_673 (by decide) ?_
    refine l_iadd C d_L_674 ?_
    refine l_sld C (6 * k + 2) (nI_add _ 2) (by omega) hL d_L_675 ?_
    refine l_if0 (tgt := 683) C d_L_676 (by decide) (fun _ => ?_) (fun q => absurd hz1 q)
    refine l_iconst (v := 0) C d_L_683 (by decide) ?_
    refine l_cxI C mv_W_base ml_L_63 d_L_684 (t_W_base C.2.2.1 hx) rfl rfl (by decide) (Nat.le_of_ble_eq_true rfl) ?_
    refine l_aload_n C d_L_687 rfl hl2 ?_
    refine l_aload_n C d_L_688 rfl hl0 ?_
    refine l_iload_n C d_L_689 rfl hl3 ?_
    refine l_iconst (v := 1) C d_L_690 (by decide) ?_
    refine l_iadd C d_L_691 ?_
    refine l_sld C (6 * k + 1) (nI_add _ 1) (by omega) hL d_L_692 ?_
    refine l_aload_n C d_L_693 rfl hl0 ?_
    refine l_iload_n C d_L_694 rfl hl3 ?_
    refine l_iconst (v := 2) C d_L_695 (by decide) ?_
    refine l_iadd C d_L_696 ?_
    refine l_sld C (6 * k + 2) (nI_add _ 2) (by omega) hL d_L_697 ?_
    refine l_if0 (tgt := 705) C d_L_698 (by decide) (fun _ => ?_) (fun q => absurd hz1 q)
    refine l_iconst (v := 0) C d_L_705 (by decide) ?_
    refine l_cmI C mv_M_base ml_L_66 d_L_706 (t_M_base C.2.2.2.1 hm) rfl rfl (by decide) (Nat.le_of_ble_eq_true rfl) ?_
    refine l_eq (tgt := 1693) C d_L_709 (by decide) ?_
    exact K _ _ hr
  · obtain ⟨r, μ1, μ2, hx, hm, hr⟩ := S k hk (xs (6 * k + 1)) (1) (Or.inr rfl) μx μm hrel
    refine l_aload_n C d_L_665 rfl hl1 ?_
    refine l_aload_n C d_L_666 rfl hl0 ?_
    refine l_iload_n C d_L_667 rfl hl3 ?_
    refine l_iconst (v := 1) C d_L_668 (by decide) ?_
    refine l_iadd C d_L_669 ?_
    refine l_sld C (6 * k + 1) (nI_add _ 1) (by omega) hL d_L_670 ?_
    refine l_aload_n C d_L_671 rfl hl0 ?_
    refine l_iload_n C d_L_672 rfl hl3 ?_
    refine l_iconst (v := 2) C d_L_673 (by decide) ?_
    refine l_iadd C d_L_674 ?_
    refine l_sld C (6 * k + 2) (nI_add _ 2) (by omega) hL d_L_675 ?_
    refine l_if0 (tgt := 683) C d_L_676 (by decide) (fun q => absurd q hz1) (fun _ => ?_)
    refine l_iconst (v := 1) C d_L_679 (by decide) ?_
    refine l_goto (tgt := 684) C d_L_680 (by decide) ?_
    refine l_cxI C mv_W_base ml_L_63 d_L_684 (t_W_base C.2.2.1 hx) rfl rfl (by decide) (Nat.le_of_ble_eq_true rfl) ?_
    refine l_aload_n C d_L_687 rfl hl2 ?_
    refine l_aload_n C d_L_688 rfl hl0 ?_
    refine l_iload_n C d_L_689 rfl hl3 ?_
    refine l_iconst (v := 1) C d_L_690 (by decide) ?_
    refine l_iadd C d_L_691 ?_
    refine l_sld C (6 * k + 1) (nI_add _ 1) (by omega) hL d_L_692 ?_
    refine l_aload_n C d_L_693 rfl hl0 ?_
    refine l_iload_n C d_L_694 rfl hl3 ?_
    refine l_iconst (v := 2) C d_L_695 (by decide) ?_
    refine l_iadd C d_L_696 ?_
    refine l_sld C (6 * k + 2) (nI_add _ 2) (by omega) hL d_L_697 ?_
    refine l_if0 (tgt := 705) C d_L_698 (by decide) (fun q => absurd q hz1) (fun _ => ?_)
    refine l_iconst (v := 1) C d_L_701 (by decide) ?_
    refine l_goto (tgt := 706) C d_L_702 (by decide) ?_
    refine l_cmI C mv_M_base ml_L_66 d_L_706 (t_M_base C.2.2.2.1 hm) rfl rfl (by decide) (Nat.le_of_ble_eq_true rfl) ?_
    refine l_eq (tgt := 1693) C d_L_709 (by decide) ?_
    exact K _ _ hr
def Sm_walker (Rel : Nat → Mm → Mm → Prop) (N : Nat) : Prop := ∀ k, k < 512 → ∀ (a1 : Int32) (a2 : Int32) (a3 : Int32), Ok (Rel k) (Rel (k + 1)) (f_W_walker N a1 a2 a3) (f_M_walker N a1 a2 a3)
set_option maxHeartbeats 4000000 in
theorem lc_12 {dA : Nat → ClassId} {D : va_G} {aX aM : Nat → Nat} {p : Program} {l : Launch} {e : Env} {s : State} {m : MethodId} {b L : Nat} {xs : Nat → Int32} {below : List Frame} {meth : Method} {c : Code} (C : ClL dA D aX aM p s m meth c b L xs) (hL : L ≤ 3072) {Rel : Nat → Mm → Mm → Prop} {N : Nat} (S : Sm_walker Rel N) {k : Nat} (hk : k < 512) (h6 : 6 * k + 6 ≤ L) {μx μm : Mm} (hrel : Rel k μx μm) {lv : Nat → Option Value} (hl0 : lv 0 = some (.ref b)) (hl1 : lv 1 = some (.ref (aX 0))) (hl2 : lv 2 = some (.ref (aM 0))) (hl3 : lv 3 = some (.int (nI (6 * k)))) (K : ∀ μ1 μ2, Rel (k + 1) μ1 μ2 → GL dA D aX aM p l e s m b below meth c 1693 lv [] μ1 μ2) : GL dA D aX aM p l e s m b below meth c 714 lv [] μx μm := by
  obtain ⟨r, μ1, μ2, hx, hm, hr⟩ := S k hk (xs (6 * k + 1)) (xs (6 * k + 2)) (xs (6 * k + 3))  μx μm hrel
  refine l_aload_n C d_L_714 rfl hl1 ?_
  refine l_aload_n C d_L_715 rfl hl0 ?_
  refine l_iload_n C d_L_716 rfl hl3 ?_
  refine l_iconst (v := 1) C d_L_717 (by decide) ?_
  refine l_iadd C d_L_718 ?_
  refine l_sld C (6 * k + 1) (nI_add _ 1) (by omega) hL d_L_719 ?_
  refine l_aload_n C d_L_720 rfl hl0 ?_
  refine l_iload_n C d_L_721 rfl hl3 ?_
  refine l_iconst (v := 2) C d_L_722 (by decide) ?_
  refine l_iadd C d_L_723 ?_
  refine l_sld C (6 * k + 2) (nI_add _ 2) (by omega) hL d_L_724 ?_
  refine l_aload_n C d_L_725 rfl hl0 ?_
  refine l_iload_n C d_L_726 rfl hl3 ?_
  refine l_iconst (v := 3) C d_L_727 (by decide) ?_
  refine l_iadd C d_L_728 ?_
  refine l_sld C (6 * k + 3) (nI_add _ 3) (by omega) hL d_L_729 ?_
  refine l_cxI C mv_W_walker ml_L_67 d_L_730 (t_W_walker C.2.2.1 hx) rfl rfl (by decide) (Nat.le_of_ble_eq_true rfl) ?_
  refine l_aload_n C d_L_733 rfl hl2 ?_
  refine l_aload_n C d_L_734 rfl hl0 ?_
  refine l_iload_n C d_L_735 rfl hl3 ?_
  refine l_iconst (v := 1) C d_L_736 (by decide) ?_
  refine l_iadd C d_L_737 ?_
  refine l_sld C (6 * k + 1) (nI_add _ 1) (by omega) hL d_L_738 ?_
  refine l_aload_n C d_L_739 rfl hl0 ?_
  refine l_iload_n C d_L_740 rfl hl3 ?_
  refine l_iconst (v := 2) C d_L_741 (by decide) ?_
  refine l_iadd C d_L_742 ?_
  refine l_sld C (6 * k + 2) (nI_add _ 2) (by omega) hL d_L_743 ?_
  refine l_aload_n C d_L_744 rfl hl0 ?_
  refine l_iload_n C d_L_745 rfl hl3 ?_
  refine l_iconst (v := 3) C d_L_746 (by decide) ?_
  refine l_iadd C d_L_747 ?_
  refine l_sld C (6 * k + 3) (nI_add _ 3) (by omega) hL d_L_748 ?_
  refine l_cmI C mv_M_walker ml_L_70 d_L_749 (t_M_walker C.2.2.2.1 hm) rfl rfl (by decide) (Nat.le_of_ble_eq_true rfl) ?_
  refine l_eq (tgt := 1693) C d_L_752 (by decide) ?_
  exact K _ _ hr
def Sm_home (Rel : Nat → Mm → Mm → Prop) (N : Nat) : Prop := ∀ k, k < 512 → ∀ (a1 : Int32), Ok (Rel k) (Rel (k + 1)) (f_W_home N a1) (f_M_home N a1)
set_option maxHeartbeats 4000000 in
theorem lc_13 {dA : Nat → ClassId} {D : va_G} {aX aM : Nat → Nat} {p : Program} {l : Launch} {e : Env} {s : State} {m : MethodId} {b L : Nat} {xs : Nat → Int32} {below : List Frame} {meth : Method} {c : Code} (C : ClL dA D aX aM p s m meth c b L xs) (hL : L ≤ 3072) {Rel : Nat → Mm → Mm → Prop} {N : Nat} (S : Sm_home Rel N) {k : Nat} (hk : k < 512) (h6 : 6 * k + 6 ≤ L) {μx μm : Mm} (hrel : Rel k μx μm) {lv : Nat → Option Value} (hl0 : lv 0 = some (.ref b)) (hl1 : lv 1 = some (.ref (aX 0))) (hl2 : lv 2 = some (.ref (aM 0))) (hl3 : lv 3 = some (.int (nI (6 * k)))) (K : ∀ μ1 μ2, Rel (k + 1) μ1 μ2 → GL dA D aX aM p l e s m b below meth c 1693 lv [] μ1 μ2) : GL dA D aX aM p l e s m b below meth c 757 lv [] μx μm := by
  obtain ⟨r, μ1, μ2, hx, hm, hr⟩ := S k hk (xs (6 * k + 1))  μx μm hrel
  refine l_aload_n C d_L_757 rfl hl1 ?_
  refine l_aload_n C d_L_758 rfl hl0 ?_
  refine l_iload_n C d_L_759 rfl hl3 ?_
  refine l_iconst (v := 1) C d_L_760 (by decide) ?_
  refine l_iadd C d_L_761 ?_
  refine l_sld C (6 * k + 1) (nI_add _ 1) (by omega) hL d_L_762 ?_
  refine l_cxI C mv_W_home ml_L_71 d_L_763 (t_W_home C.2.2.1 hx) rfl rfl (by decide) (Nat.le_of_ble_eq_true rfl) ?_
  refine l_aload_n C d_L_766 rfl hl2 ?_
  refine l_aload_n C d_L_767 rfl hl0 ?_
  refine l_iload_n C d_L_768 rfl hl3 ?_
  refine l_iconst (v := 1) C d_L_769 (by decide) ?_
  refine l_iadd C d_L_770 ?_
  refine l_sld C (6 * k + 1) (nI_add _ 1) (by omega) hL d_L_771 ?_
  refine l_cmI C mv_M_home ml_L_74 d_L_772 (t_M_home C.2.2.2.1 hm) rfl rfl (by decide) (Nat.le_of_ble_eq_true rfl) ?_
  refine l_eq (tgt := 1693) C d_L_775 (by decide) ?_
  exact K _ _ hr
def Sm_view (Rel : Nat → Mm → Mm → Prop) (N : Nat) : Prop := ∀ k, k < 512 → ∀ (a1 : Int32) (a2 : Int32), Ok (Rel k) (Rel (k + 1)) (f_W_view N a1 a2) (f_M_view N a1 a2)
set_option maxHeartbeats 4000000 in
theorem lc_14 {dA : Nat → ClassId} {D : va_G} {aX aM : Nat → Nat} {p : Program} {l : Launch} {e : Env} {s : State} {m : MethodId} {b L : Nat} {xs : Nat → Int32} {below : List Frame} {meth : Method} {c : Code} (C : ClL dA D aX aM p s m meth c b L xs) (hL : L ≤ 3072) {Rel : Nat → Mm → Mm → Prop} {N : Nat} (S : Sm_view Rel N) {k : Nat} (hk : k < 512) (h6 : 6 * k + 6 ≤ L) {μx μm : Mm} (hrel : Rel k μx μm) {lv : Nat → Option Value} (hl0 : lv 0 = some (.ref b)) (hl1 : lv 1 = some (.ref (aX 0))) (hl2 : lv 2 = some (.ref (aM 0))) (hl3 : lv 3 = some (.int (nI (6 * k)))) (K : ∀ μ1 μ2, Rel (k + 1) μ1 μ2 → GL dA D aX aM p l e s m b below meth c 1693 lv [] μ1 μ2) : GL dA D aX aM p l e s m b below meth c 780 lv [] μx μm := by
  obtain ⟨r, μ1, μ2, hx, hm, hr⟩ := S k hk (xs (6 * k + 1)) (xs (6 * k + 2))  μx μm hrel
  refine l_aload_n C d_L_780 rfl hl1 ?_
  refine l_aload_n C d_L_781 rfl hl0 ?_
  refine l_iload_n C d_L_782 rfl hl3 ?_
  refine l_iconst (v := 1) C d_L_783 (by decide) ?_
  refine l_iadd C d_L_784 ?_
  refine l_sld C (6 * k + 1) (nI_add _ 1) (by omega) hL d_L_785 ?_
  refine l_aload_n C d_L_786 rfl hl0 ?_
  refine l_iload_n C d_L_787 rfl hl3 ?_
  refine l_iconst (v := 2) C d_L_788 (by decide) ?_
  refine l_iadd C d_L_789 ?_
  refine l_sld C (6 * k + 2) (nI_add _ 2) (by omega) hL d_L_790 ?_
  refine l_cxI C mv_W_view ml_L_75 d_L_791 (t_W_view C.2.2.1 hx) rfl rfl (by decide) (Nat.le_of_ble_eq_true rfl) ?_
  refine l_aload_n C d_L_794 rfl hl2 ?_
  refine l_aload_n C d_L_795 rfl hl0 ?_
  refine l_iload_n C d_L_796 rfl hl3 ?_
  refine l_iconst (v := 1) C d_L_797 (by decide) ?_
  refine l_iadd C d_L_798 ?_
  refine l_sld C (6 * k + 1) (nI_add _ 1) (by omega) hL d_L_799 ?_
  refine l_aload_n C d_L_800 rfl hl0 ?_
  refine l_iload_n C d_L_801 rfl hl3 ?_
  refine l_iconst (v := 2) C d_L_802 (by decide) ?_
  refine l_iadd C d_L_803 ?_
  refine l_sld C (6 * k + 2) (nI_add _ 2) (by omega) hL d_L_804 ?_
  refine l_cmI C mv_M_view ml_L_78 d_L_805 (t_M_view C.2.2.2.1 hm) rfl rfl (by decide) (Nat.le_of_ble_eq_true rfl) ?_
  refine l_eq (tgt := 1693) C d_L_808 (by decide) ?_
  exact K _ _ hr
def Sm_lose (Rel : Nat → Mm → Mm → Prop) (N : Nat) : Prop := ∀ k, k < 512 → ∀ (a1 : Int32) (a2 : Int32), (a2 = 0 ∨ a2 = 1) → Ok (Rel k) (Rel (k + 1)) (f_W_lose N a1 a2) (f_M_lose N a1 a2)
set_option maxHeartbeats 4000000 in
theorem lc_15 {dA : Nat → ClassId} {D : va_G} {aX aM : Nat → Nat} {p : Program} {l : Launch} {e : Env} {s : State} {m : MethodId} {b L : Nat} {xs : Nat → Int32} {below : List Frame} {meth : Method} {c : Code} (C : ClL dA D aX aM p s m meth c b L xs) (hL : L ≤ 3072) {Rel : Nat → Mm → Mm → Prop} {N : Nat} (S : Sm_lose Rel N) {k : Nat} (hk : k < 512) (h6 : 6 * k + 6 ≤ L) {μx μm : Mm} (hrel : Rel k μx μm) {lv : Nat → Option Value} (hl0 : lv 0 = some (.ref b)) (hl1 : lv 1 = some (.ref (aX 0))) (hl2 : lv 2 = some (.ref (aM 0))) (hl3 : lv 3 = some (.int (nI (6 * k)))) (K : ∀ μ1 μ2, Rel (k + 1) μ1 μ2 → GL dA D aX aM p l e s m b below meth c 1693 lv [] μ1 μ2) : GL dA D aX aM p l e s m b below meth c 813 lv [] μx μm := by
  by_cases hz1 : xs (6 * k + 2) = 0
  · obtain ⟨r, μ1, μ2, hx, hm, hr⟩ := S k hk (xs (6 * k + 1)) (0) (Or.inl rfl) μx μm hrel
    refine l_aload_n C d_L_813 rfl hl1 ?_
    refine l_aload_n C d_L_814 rfl hl0 ?_
    refine l_iload_n C d_L_815 rfl hl3 ?_
    refine l_iconst (v := 1) C d_L_816 (by decide) ?_
    refine l_iadd C d_L_817 ?_
    refine l_sld C (6 * k + 1) (nI_add _ 1) (by omega) hL d_L_818 ?_
    refine l_aload_n C d_L_819 rfl hl0 ?_
    refine l_iload_n C d_L_820 rfl hl3 ?_
    refine l_iconst (v := 2) C d_L_821 (by decide) ?_
    refine l_iadd C d_L_822 ?_
    refine l_sld C (6 * k + 2) (nI_add _ 2) (by omega) hL d_L_823 ?_
    refine l_if0 (tgt := 831) C d_L_824 (by decide) (fun _ => ?_) (fun q => absurd hz1 q)
    refine l_iconst (v := 0) C d_L_831 (by decide) ?_
    refine l_cxI C mv_W_lose ml_L_79 d_L_832 (t_W_lose C.2.2.1 hx) rfl rfl (by decide) (Nat.le_of_ble_eq_true rfl) ?_
    refine l_aload_n C d_L_835 rfl hl2 ?_
    refine l_aload_n C d_L_836 rfl hl0 ?_
    refine l_iload_n C d_L_837 rfl hl3 ?_
    refine l_iconst (v := 1) C d_L_838 (by decide) ?_
    refine l_iadd C d_L_839 ?_
    refine l_sld C (6 * k + 1) (nI_add _ 1) (by omega) hL d_L_840 ?_
    refine l_aload_n C d_L_841 rfl hl0 ?_
    refine l_iload_n C d_L_842 rfl hl3 ?_
    refine l_iconst (v := 2) C d_L_843 (by decide) ?_
    refine l_iadd C d_L_844 ?_
    refine l_sld C (6 * k + 2) (nI_add _ 2) (by omega) hL d_L_845 ?_
    refine l_if0 (tgt := 853) C d_L_846 (by decide) (fun _ => ?_) (fun q => absurd hz1 q)
    refine l_iconst (v := 0) C d_L_853 (by decide) ?_
    refine l_cmI C mv_M_lose ml_L_82 d_L_854 (t_M_lose C.2.2.2.1 hm) rfl rfl (by decide) (Nat.le_of_ble_eq_true rfl) ?_
    refine l_eq (tgt := 1693) C d_L_857 (by decide) ?_
    exact K _ _ hr
  · obtain ⟨r, μ1, μ2, hx, hm, hr⟩ := S k hk (xs (6 * k + 1)) (1) (Or.inr rfl) μx μm hrel
    refine l_aload_n C d_L_813 rfl hl1 ?_
    refine l_aload_n C d_L_814 rfl hl0 ?_
    refine l_iload_n C d_L_815 rfl hl3 ?_
    refine l_iconst (v := 1) C d_L_816 (by decide) ?_
    refine l_iadd C d_L_817 ?_
    refine l_sld C (6 * k + 1) (nI_add _ 1) (by omega) hL d_L_818 ?_
    refine l_aload_n C d_L_819 rfl hl0 ?_
    refine l_iload_n C d_L_820 rfl hl3 ?_
    refine l_iconst (v := 2) C d_L_821 (by decide) ?_
    refine l_iadd C d_L_822 ?_
    refine l_sld C (6 * k + 2) (nI_add _ 2) (by omega) hL d_L_823 ?_
    refine l_if0 (tgt := 831) C d_L_824 (by decide) (fun q => absurd q hz1) (fun _ => ?_)
    refine l_iconst (v := 1) C d_L_827 (by decide) ?_
    refine l_goto (tgt := 832) C d_L_828 (by decide) ?_
    refine l_cxI C mv_W_lose ml_L_79 d_L_832 (t_W_lose C.2.2.1 hx) rfl rfl (by decide) (Nat.le_of_ble_eq_true rfl) ?_
    refine l_aload_n C d_L_835 rfl hl2 ?_
    refine l_aload_n C d_L_836 rfl hl0 ?_
    refine l_iload_n C d_L_837 rfl hl3 ?_
    refine l_iconst (v := 1) C d_L_838 (by decide) ?_
    refine l_iadd C d_L_839 ?_
    refine l_sld C (6 * k + 1) (nI_add _ 1) (by omega) hL d_L_840 ?_
    refine l_aload_n C d_L_841 rfl hl0 ?_
    refine l_iload_n C d_L_842 rfl hl3 ?_
    refine l_iconst (v := 2) C d_L_843 (by decide) ?_
    refine l_iadd C d_L_844 ?_
    refine l_sld C (6 * k + 2) (nI_add _ 2) (by omega) hL d_L_845 ?_
    refine l_if0 (tgt := 853) C d_L_846 (by decide) (fun q => absurd q hz1) (fun _ => ?_)
    refine l_iconst (v := 1) C d_L_849 (by decide) ?_
    refine l_goto (tgt := 854) C d_L_850 (by decide) ?_
    refine l_cmI C mv_M_lose ml_L_82 d_L_854 (t_M_lose C.2.2.2.1 hm) rfl rfl (by decide) (Nat.le_of_ble_eq_true rfl) ?_
    refine l_eq (tgt := 1693) C d_L_857 (by decide) ?_
    exact K _ _ hr
def Sm_told (Rel : Nat → Mm → Mm → Prop) (N : Nat) : Prop := ∀ k, k < 512 → ∀ (a1 : Int32) (a2 : Int32), Ok (Rel k) (Rel (k + 1)) (f_W_told N a1 a2) (f_M_told N a1 a2)
set_option maxHeartbeats 4000000 in
theorem lc_16 {dA : Nat → ClassId} {D : va_G} {aX aM : Nat → Nat} {p : Program} {l : Launch} {e : Env} {s : State} {m : MethodId} {b L : Nat} {xs : Nat → Int32} {below : List Frame} {meth : Method} {c : Code} (C : ClL dA D aX aM p s m meth c b L xs) (hL : L ≤ 3072) {Rel : Nat → Mm → Mm → Prop} {N : Nat} (S : Sm_told Rel N) {k : Nat} (hk : k < 512) (h6 : 6 * k + 6 ≤ L) {μx μm : Mm} (hrel : Rel k μx μm) {lv : Nat → Option Value} (hl0 : lv 0 = some (.ref b)) (hl1 : lv 1 = some (.ref (aX 0))) (hl2 : lv 2 = some (.ref (aM 0))) (hl3 : lv 3 = some (.int (nI (6 * k)))) (K : ∀ μ1 μ2, Rel (k + 1) μ1 μ2 → GL dA D aX aM p l e s m b below meth c 1693 lv [] μ1 μ2) : GL dA D aX aM p l e s m b below meth c 862 lv [] μx μm := by
  obtain ⟨r, μ1, μ2, hx, hm, hr⟩ := S k hk (xs (6 * k + 1)) (xs (6 * k + 2))  μx μm hrel
  refine l_aload_n C d_L_862 rfl hl1 ?_
  refine l_aload_n C d_L_863 rfl hl0 ?_
  refine l_iload_n C d_L_864 rfl hl3 ?_
  refine l_iconst (v := 1) C d_L_865 (by decide) ?_
  refine l_iadd C d_L_866 ?_
  refine l_sld C (6 * k + 1) (nI_add _ 1) (by omega) hL d_L_867 ?_
  refine l_aload_n C d_L_868 rfl hl0 ?_
  refine l_iload_n C d_L_869 rfl hl3 ?_
  refine l_iconst (v := 2) C d_L_870 (by decide) ?_
  refine l_iadd C d_L_871 ?_
  refine l_sld C (6 * k + 2) (nI_add _ 2) (by omega) hL d_L_872 ?_
  refine l_cxI C mv_W_told ml_L_83 d_L_873 (t_W_told C.2.2.1 hx) rfl rfl (by decide) (Nat.le_of_ble_eq_true rfl) ?_
  refine l_aload_n C d_L_876 rfl hl2 ?_
  refine l_aload_n C d_L_877 rfl hl0 ?_
  refine l_iload_n C d_L_878 rfl hl3 ?_
  refine l_iconst (v := 1) C d_L_879 (by decide) ?_
  refine l_iadd C d_L_880 ?_
  refine l_sld C (6 * k + 1) (nI_add _ 1) (by omega) hL d_L_881 ?_
  refine l_aload_n C d_L_882 rfl hl0 ?_
  refine l_iload_n C d_L_883 rfl hl3 ?_
  refine l_iconst (v := 2) C d_L_884 (by decide) ?_
  refine l_iadd C d_L_885 ?_
  refine l_sld C (6 * k + 2) (nI_add _ 2) (by omega) hL d_L_886 ?_
  refine l_cmI C mv_M_told ml_L_86 d_L_887 (t_M_told C.2.2.2.1 hm) rfl rfl (by decide) (Nat.le_of_ble_eq_true rfl) ?_
  refine l_eq (tgt := 1693) C d_L_890 (by decide) ?_
  exact K _ _ hr
def Sm_mark (Rel : Nat → Mm → Mm → Prop) (N : Nat) : Prop := ∀ k, k < 512 → ∀ (a1 : Int32) (a2 : Int32), Ok (Rel k) (Rel (k + 1)) (f_W_mark N a1 a2) (f_M_mark N a1 a2)
set_option maxHeartbeats 4000000 in
theorem lc_17 {dA : Nat → ClassId} {D : va_G} {aX aM : Nat → Nat} {p : Program} {l : Launch} {e : Env} {s : State} {m : MethodId} {b L : Nat} {xs : Nat → Int32} {below : List Frame} {meth : Method} {c : Code} (C : ClL dA D aX aM p s m meth c b L xs) (hL : L ≤ 3072) {Rel : Nat → Mm → Mm → Prop} {N : Nat} (S : Sm_mark Rel N) {k : Nat} (hk : k < 512) (h6 : 6 * k + 6 ≤ L) {μx μm : Mm} (hrel : Rel k μx μm) {lv : Nat → Option Value} (hl0 : lv 0 = some (.ref b)) (hl1 : lv 1 = some (.ref (aX 0))) (hl2 : lv 2 = some (.ref (aM 0))) (hl3 : lv 3 = some (.int (nI (6 * k)))) (K : ∀ μ1 μ2, Rel (k + 1) μ1 μ2 → GL dA D aX aM p l e s m b below meth c 1693 lv [] μ1 μ2) : GL dA D aX aM p l e s m b below meth c 895 lv [] μx μm := by
  obtain ⟨r, μ1, μ2, hx, hm, hr⟩ := S k hk (xs (6 * k + 1)) (xs (6 * k + 2))  μx μm hrel
  refine l_aload_n C d_L_895 rfl hl1 ?_
  refine l_aload_n C d_L_896 rfl hl0 ?_
  refine l_iload_n C d_L_897 rfl hl3 ?_
  refine l_iconst (v := 1) C d_L_898 (by decide) ?_
  refine l_iadd C d_L_899 ?_
  refine l_sld C (6 * k + 1) (nI_add _ 1) (by omega) hL d_L_900 ?_
  refine l_aload_n C d_L_901 rfl hl0 ?_
  refine l_iload_n C d_L_902 rfl hl3 ?_
  refine l_iconst (v := 2) C d_L_903 (by decide) ?_
  refine l_iadd C d_L_904 ?_
  refine l_sld C (6 * k + 2) (nI_add _ 2) (by omega) hL d_L_905 ?_
  refine l_cxI C mv_W_mark ml_L_87 d_L_906 (t_W_mark C.2.2.1 hx) rfl rfl (by decide) (Nat.le_of_ble_eq_true rfl) ?_
  refine l_aload_n C d_L_909 rfl hl2 ?_
  refine l_aload_n C d_L_910 rfl hl0 ?_
  refine l_iload_n C d_L_911 rfl hl3 ?_
  refine l_iconst (v := 1) C d_L_912 (by decide) ?_
  refine l_iadd C d_L_913 ?_
  refine l_sld C (6 * k + 1) (nI_add _ 1) (by omega) hL d_L_914 ?_
  refine l_aload_n C d_L_915 rfl hl0 ?_
  refine l_iload_n C d_L_916 rfl hl3 ?_
  refine l_iconst (v := 2) C d_L_917 (by decide) ?_
  refine l_iadd C d_L_918 ?_
  refine l_sld C (6 * k + 2) (nI_add _ 2) (by omega) hL d_L_919 ?_
  refine l_cmI C mv_M_mark ml_L_90 d_L_920 (t_M_mark C.2.2.2.1 hm) rfl rfl (by decide) (Nat.le_of_ble_eq_true rfl) ?_
  refine l_eq (tgt := 1693) C d_L_923 (by decide) ?_
  exact K _ _ hr
def Sm_plan (Rel : Nat → Mm → Mm → Prop) (N : Nat) : Prop := ∀ k, k < 512 → ∀ (a1 : Int32) (a2 : Int32) (a3 : Int32) (a4 : Int32), Ok (Rel k) (Rel (k + 1)) (f_W_plan N a1 a2 a3 a4) (f_M_plan N a1 a2 a3 a4)
set_option maxHeartbeats 4000000 in
theorem lc_18 {dA : Nat → ClassId} {D : va_G} {aX aM : Nat → Nat} {p : Program} {l : Launch} {e : Env} {s : State} {m : MethodId} {b L : Nat} {xs : Nat → Int32} {below : List Frame} {meth : Method} {c : Code} (C : ClL dA D aX aM p s m meth c b L xs) (hL : L ≤ 3072) {Rel : Nat → Mm → Mm → Prop} {N : Nat} (S : Sm_plan Rel N) {k : Nat} (hk : k < 512) (h6 : 6 * k + 6 ≤ L) {μx μm : Mm} (hrel : Rel k μx μm) {lv : Nat → Option Value} (hl0 : lv 0 = some (.ref b)) (hl1 : lv 1 = some (.ref (aX 0))) (hl2 : lv 2 = some (.ref (aM 0))) (hl3 : lv 3 = some (.int (nI (6 * k)))) (K : ∀ μ1 μ2, Rel (k + 1) μ1 μ2 → GL dA D aX aM p l e s m b below meth c 1693 lv [] μ1 μ2) : GL dA D aX aM p l e s m b below meth c 928 lv [] μx μm := by
  obtain ⟨r, μ1, μ2, hx, hm, hr⟩ := S k hk (xs (6 * k + 1)) (xs (6 * k + 2)) (xs (6 * k + 3)) (xs (6 * k + 4))  μx μm hrel
  refine l_aload_n C d_L_928 rfl hl1 ?_
  refine l_aload_n C d_L_929 rfl hl0 ?_
  refine l_iload_n C d_L_930 rfl hl3 ?_
  refine l_iconst (v := 1) C d_L_931 (by decide) ?_
  refine l_iadd C d_L_932 ?_
  refine l_sld C (6 * k + 1) (nI_add _ 1) (by omega) hL d_L_933 ?_
  refine l_aload_n C d_L_934 rfl hl0 ?_
  refine l_iload_n C d_L_935 rfl hl3 ?_
  refine l_iconst (v := 2) C d_L_936 (by decide) ?_
  refine l_iadd C d_L_937 ?_
  refine l_sld C (6 * k + 2) (nI_add _ 2) (by omega) hL d_L_938 ?_
  refine l_aload_n C d_L_939 rfl hl0 ?_
  refine l_iload_n C d_L_940 rfl hl3 ?_
  refine l_iconst (v := 3) C d_L_941 (by decide) ?_
  refine l_iadd C d_L_942 ?_
  refine l_sld C (6 * k + 3) (nI_add _ 3) (by omega) hL d_L_943 ?_
  refine l_aload_n C d_L_944 rfl hl0 ?_
  refine l_iload_n C d_L_945 rfl hl3 ?_
  refine l_iconst (v := 4) C d_L_946 (by decide) ?_
  refine l_iadd C d_L_947 ?_
  refine l_sld C (6 * k + 4) (nI_add _ 4) (by omega) hL d_L_948 ?_
  refine l_cxI C mv_W_plan ml_L_91 d_L_949 (t_W_plan C.2.2.1 hx) rfl rfl (by decide) (Nat.le_of_ble_eq_true rfl) ?_
  refine l_aload_n C d_L_952 rfl hl2 ?_
  refine l_aload_n C d_L_953 rfl hl0 ?_
  refine l_iload_n C d_L_954 rfl hl3 ?_
  refine l_iconst (v := 1) C d_L_955 (by decide) ?_
  refine l_iadd C d_L_956 ?_
  refine l_sld C (6 * k + 1) (nI_add _ 1) (by omega) hL d_L_957 ?_
  refine l_aload_n C d_L_958 rfl hl0 ?_
  refine l_iload_n C d_L_959 rfl hl3 ?_
  refine l_iconst (v := 2) C d_L_960 (by decide) ?_
  refine l_iadd C d_L_961 ?_
  refine l_sld C (6 * k + 2) (nI_add _ 2) (by omega) hL d_L_962 ?_
  refine l_aload_n C d_L_963 rfl hl0 ?_
  refine l_iload_n C d_L_964 rfl hl3 ?_
  refine l_iconst (v := 3) C d_L_965 (by decide) ?_
  refine l_iadd C d_L_966 ?_
  refine l_sld C (6 * k + 3) (nI_add _ 3) (by omega) hL d_L_967 ?_
  refine l_aload_n C d_L_968 rfl hl0 ?_
  refine l_iload_n C d_L_969 rfl hl3 ?_
  refine l_iconst (v := 4) C d_L_970 (by decide) ?_
  refine l_iadd C d_L_971 ?_
  refine l_sld C (6 * k + 4) (nI_add _ 4) (by omega) hL d_L_972 ?_
  refine l_cmI C mv_M_plan ml_L_95 d_L_973 (t_M_plan C.2.2.2.1 hm) rfl rfl (by decide) (Nat.le_of_ble_eq_true rfl) ?_
  refine l_eq (tgt := 1693) C d_L_976 (by decide) ?_
  exact K _ _ hr
def Sm_unplan (Rel : Nat → Mm → Mm → Prop) (N : Nat) : Prop := ∀ k, k < 512 → ∀ (a1 : Int32), Ok (Rel k) (Rel (k + 1)) (f_W_unplan N a1) (f_M_unplan N a1)
set_option maxHeartbeats 4000000 in
theorem lc_19 {dA : Nat → ClassId} {D : va_G} {aX aM : Nat → Nat} {p : Program} {l : Launch} {e : Env} {s : State} {m : MethodId} {b L : Nat} {xs : Nat → Int32} {below : List Frame} {meth : Method} {c : Code} (C : ClL dA D aX aM p s m meth c b L xs) (hL : L ≤ 3072) {Rel : Nat → Mm → Mm → Prop} {N : Nat} (S : Sm_unplan Rel N) {k : Nat} (hk : k < 512) (h6 : 6 * k + 6 ≤ L) {μx μm : Mm} (hrel : Rel k μx μm) {lv : Nat → Option Value} (hl0 : lv 0 = some (.ref b)) (hl1 : lv 1 = some (.ref (aX 0))) (hl2 : lv 2 = some (.ref (aM 0))) (hl3 : lv 3 = some (.int (nI (6 * k)))) (K : ∀ μ1 μ2, Rel (k + 1) μ1 μ2 → GL dA D aX aM p l e s m b below meth c 1693 lv [] μ1 μ2) : GL dA D aX aM p l e s m b below meth c 981 lv [] μx μm := by
  obtain ⟨r, μ1, μ2, hx, hm, hr⟩ := S k hk (xs (6 * k + 1))  μx μm hrel
  refine l_aload_n C d_L_981 rfl hl1 ?_
  refine l_aload_n C d_L_982 rfl hl0 ?_
  refine l_iload_n C d_L_983 rfl hl3 ?_
  refine l_iconst (v := 1) C d_L_984 (by decide) ?_
  refine l_iadd C d_L_985 ?_
  refine l_sld C (6 * k + 1) (nI_add _ 1) (by omega) hL d_L_986 ?_
  refine l_cxI C mv_W_unplan ml_L_96 d_L_987 (t_W_unplan C.2.2.1 hx) rfl rfl (by decide) (Nat.le_of_ble_eq_true rfl) ?_
  refine l_aload_n C d_L_990 rfl hl2 ?_
  refine l_aload_n C d_L_991 rfl hl0 ?_
  refine l_iload_n C d_L_992 rfl hl3 ?_
  refine l_iconst (v := 1) C d_L_993 (by decide) ?_
  refine l_iadd C d_L_994 ?_
  refine l_sld C (6 * k + 1) (nI_add _ 1) (by omega) hL d_L_995 ?_
  refine l_cmI C mv_M_unplan ml_L_99 d_L_996 (t_M_unplan C.2.2.2.1 hm) rfl rfl (by decide) (Nat.le_of_ble_eq_true rfl) ?_
  refine l_eq (tgt := 1693) C d_L_999 (by decide) ?_
  exact K _ _ hr
def Sm_planned (Rel : Nat → Mm → Mm → Prop) (N : Nat) : Prop := ∀ k, k < 512 → ∀ (a1 : Int32) (a2 : Int32) (a3 : Int32), (a3 = 0 ∨ a3 = 1) → Ok (Rel k) (Rel (k + 1)) (f_W_planned N a1 a2 a3) (f_M_planned N a1 a2 a3)
set_option maxHeartbeats 4000000 in
theorem lc_20 {dA : Nat → ClassId} {D : va_G} {aX aM : Nat → Nat} {p : Program} {l : Launch} {e : Env} {s : State} {m : MethodId} {b L : Nat} {xs : Nat → Int32} {below : List Frame} {meth : Method} {c : Code} (C : ClL dA D aX aM p s m meth c b L xs) (hL : L ≤ 3072) {Rel : Nat → Mm → Mm → Prop} {N : Nat} (S : Sm_planned Rel N) {k : Nat} (hk : k < 512) (h6 : 6 * k + 6 ≤ L) {μx μm : Mm} (hrel : Rel k μx μm) {lv : Nat → Option Value} (hl0 : lv 0 = some (.ref b)) (hl1 : lv 1 = some (.ref (aX 0))) (hl2 : lv 2 = some (.ref (aM 0))) (hl3 : lv 3 = some (.int (nI (6 * k)))) (K : ∀ μ1 μ2, Rel (k + 1) μ1 μ2 → GL dA D aX aM p l e s m b below meth c 1693 lv [] μ1 μ2) : GL dA D aX aM p l e s m b below meth c 1004 lv [] μx μm := by
  by_cases hz2 : xs (6 * k + 3) = 0
  · obtain ⟨r, μ1, μ2, hx, hm, hr⟩ := S k hk (xs (6 * k + 1)) (xs (6 * k + 2)) (0) (Or.inl rfl) μx μm hrel
    refine l_aload_n C d_L_1004 rfl hl1 ?_
    refine l_aload_n C d_L_1005 rfl hl0 ?_
    refine l_iload_n C d_L_1006 rfl hl3 ?_
    refine l_iconst (v := 1) C d_L_1007 (by decide) ?_
    refine l_iadd C d_L_1008 ?_
    refine l_sld C (6 * k + 1) (nI_add _ 1) (by omega) hL d_L_1009 ?_
    refine l_aload_n C d_L_1010 rfl hl0 ?_
    refine l_iload_n C d_L_1011 rfl hl3 ?_
    refine l_iconst (v := 2) C d_L_1012 (by decide) ?_
    refine l_iadd C d_L_1013 ?_
    refine l_sld C (6 * k + 2) (nI_add _ 2) (by omega) hL d_L_1014 ?_
    refine l_aload_n C d_L_1015 rfl hl0 ?_
    refine l_iload_n C d_L_1016 rfl hl3 ?_
    refine l_iconst (v := 3) C d_L_1017 (by decide) ?_
    refine l_iadd C d_L_1018 ?_
    refine l_sld C (6 * k + 3) (nI_add _ 3) (by omega) hL d_L_1019 ?_
    refine l_if0 (tgt := 1027) C d_L_1020 (by decide) (fun _ => ?_) (fun q => absurd hz2 q)
    refine l_iconst (v := 0) C d_L_1027 (by decide) ?_
    refine l_cxI C mv_W_planned ml_L_100 d_L_1028 (t_W_planned C.2.2.1 hx) rfl rfl (by decide) (Nat.le_of_ble_eq_true rfl) ?_
    refine l_aload_n C d_L_1031 rfl hl2 ?_
    refine l_aload_n C d_L_1032 rfl hl0 ?_
    refine l_iload_n C d_L_1033 rfl hl3 ?_
    refine l_iconst (v := 1) C d_L_1034 (by decide) ?_
    refine l_iadd C d_L_1035 ?_
    refine l_sld C (6 * k + 1) (nI_add _ 1) (by omega) hL d_L_1036 ?_
    refine l_aload_n C d_L_1037 rfl hl0 ?_
    refine l_iload_n C d_L_1038 rfl hl3 ?_
    refine l_iconst (v := 2) C d_L_1039 (by decide) ?_
    refine l_iadd C d_L_1040 ?_
    refine l_sld C (6 * k + 2) (nI_add _ 2) (by omega) hL d_L_1041 ?_
    refine l_aload_n C d_L_1042 rfl hl0 ?_
    refine l_iload_n C d_L_1043 rfl hl3 ?_
    refine l_iconst (v := 3) C d_L_1044 (by decide) ?_
    refine l_iadd C d_L_1045 ?_
    refine l_sld C (6 * k + 3) (nI_add _ 3) (by omega) hL d_L_1046 ?_
    refine l_if0 (tgt := 1054) C d_L_1047 (by decide) (fun _ => ?_) (fun q => absurd hz2 q)
    refine l_iconst (v := 0) C d_L_1054 (by decide) ?_
    refine l_cmI C mv_M_planned ml_L_103 d_L_1055 (t_M_planned C.2.2.2.1 hm) rfl rfl (by decide) (Nat.le_of_ble_eq_true rfl) ?_
    refine l_eq (tgt := 1693) C d_L_1058 (by decide) ?_
    exact K _ _ hr
  · obtain ⟨r, μ1, μ2, hx, hm, hr⟩ := S k hk (xs (6 * k + 1)) (xs (6 * k + 2)) (1) (Or.inr rfl) μx μm hrel
    refine l_aload_n C d_L_1004 rfl hl1 ?_
    refine l_aload_n C d_L_1005 rfl hl0 ?_
    refine l_iload_n C d_L_1006 rfl hl3 ?_
    refine l_iconst (v := 1) C d_L_1007 (by decide) ?_
    refine l_iadd C d_L_1008 ?_
    refine l_sld C (6 * k + 1) (nI_add _ 1) (by omega) hL d_L_1009 ?_
    refine l_aload_n C d_L_1010 rfl hl0 ?_
    refine l_iload_n C d_L_1011 rfl hl3 ?_
    refine l_iconst (v := 2) C d_L_1012 (by decide) ?_
    refine l_iadd C d_L_1013 ?_
    refine l_sld C (6 * k + 2) (nI_add _ 2) (by omega) hL d_L_1014 ?_
    refine l_aload_n C d_L_1015 rfl hl0 ?_
    refine l_iload_n C d_L_1016 rfl hl3 ?_
    refine l_iconst (v := 3) C d_L_1017 (by decide) ?_
    refine l_iadd C d_L_1018 ?_
    refine l_sld C (6 * k + 3) (nI_add _ 3) (by omega) hL d_L_1019 ?_
    refine l_if0 (tgt := 1027) C d_L_1020 (by decide) (fun q => absurd q hz2) (fun _ => ?_)
    refine l_iconst (v := 1) C d_L_1023 (by decide) ?_
    refine l_goto (tgt := 1028) C d_L_1024 (by decide) ?_
    refine l_cxI C mv_W_planned ml_L_100 d_L_1028 (t_W_planned C.2.2.1 hx) rfl rfl (by decide) (Nat.le_of_ble_eq_true rfl) ?_
    refine l_aload_n C d_L_1031 rfl hl2 ?_
    refine l_aload_n C d_L_1032 rfl hl0 ?_
    refine l_iload_n C d_L_1033 rfl hl3 ?_
    refine l_iconst (v := 1) C d_L_1034 (by decide) ?_
    refine l_iadd C d_L_1035 ?_
    refine l_sld C (6 * k + 1) (nI_add _ 1) (by omega) hL d_L_1036 ?_
    refine l_aload_n C d_L_1037 rfl hl0 ?_
    refine l_iload_n C d_L_1038 rfl hl3 ?_
    refine l_iconst (v := 2) C d_L_1039 (by decide) ?_
    refine l_iadd C d_L_1040 ?_
    refine l_sld C (6 * k + 2) (nI_add _ 2) (by omega) hL d_L_1041 ?_
    refine l_aload_n C d_L_1042 rfl hl0 ?_
    refine l_iload_n C d_L_1043 rfl hl3 ?_
    refine l_iconst (v := 3) C d_L_1044 (by decide) ?_
    refine l_iadd C d_L_1045 ?_
    refine l_sld C (6 * k + 3) (nI_add _ 3) (by omega) hL d_L_1046 ?_
    refine l_if0 (tgt := 1054) C d_L_1047 (by decide) (fun q => absurd q hz2) (fun _ => ?_)
    refine l_iconst (v := 1) C d_L_1050 (by decide) ?_
    refine l_goto (tgt := 1055) C d_L_1051 (by decide) ?_
    refine l_cmI C mv_M_planned ml_L_103 d_L_1055 (t_M_planned C.2.2.2.1 hm) rfl rfl (by decide) (Nat.le_of_ble_eq_true rfl) ?_
    refine l_eq (tgt := 1693) C d_L_1058 (by decide) ?_
    exact K _ _ hr
def Sm_fit (Rel : Nat → Mm → Mm → Prop) (N : Nat) : Prop := ∀ k, k < 512 → ∀ (a1 : Int32), Ok (Rel k) (Rel (k + 1)) (f_W_fit N a1) (f_M_fit N a1)
set_option maxHeartbeats 4000000 in
theorem lc_21 {dA : Nat → ClassId} {D : va_G} {aX aM : Nat → Nat} {p : Program} {l : Launch} {e : Env} {s : State} {m : MethodId} {b L : Nat} {xs : Nat → Int32} {below : List Frame} {meth : Method} {c : Code} (C : ClL dA D aX aM p s m meth c b L xs) (hL : L ≤ 3072) {Rel : Nat → Mm → Mm → Prop} {N : Nat} (S : Sm_fit Rel N) {k : Nat} (hk : k < 512) (h6 : 6 * k + 6 ≤ L) {μx μm : Mm} (hrel : Rel k μx μm) {lv : Nat → Option Value} (hl0 : lv 0 = some (.ref b)) (hl1 : lv 1 = some (.ref (aX 0))) (hl2 : lv 2 = some (.ref (aM 0))) (hl3 : lv 3 = some (.int (nI (6 * k)))) (K : ∀ μ1 μ2, Rel (k + 1) μ1 μ2 → GL dA D aX aM p l e s m b below meth c 1693 lv [] μ1 μ2) : GL dA D aX aM p l e s m b below meth c 1063 lv [] μx μm := by
  obtain ⟨r, μ1, μ2, hx, hm, hr⟩ := S k hk (xs (6 * k + 1))  μx μm hrel
  refine l_aload_n C d_L_1063 rfl hl1 ?_
  refine l_aload_n C d_L_1064 rfl hl0 ?_
  refine l_iload_n C d_L_1065 rfl hl3 ?_
  refine l_iconst (v := 1) C d_L_1066 (by decide) ?_
  refine l_iadd C d_L_1067 ?_
  refine l_sld C (6 * k + 1) (nI_add _ 1) (by omega) hL d_L_1068 ?_
  refine l_cxI C mv_W_fit ml_L_104 d_L_1069 (t_W_fit C.2.2.1 hx) rfl rfl (by decide) (Nat.le_of_ble_eq_true rfl) ?_
  refine l_aload_n C d_L_1072 rfl hl2 ?_
  refine l_aload_n C d_L_1073 rfl hl0 ?_
  refine l_iload_n C d_L_1074 rfl hl3 ?_
  refine l_iconst (v := 1) C d_L_1075 (by decide) ?_
  refine l_iadd C d_L_1076 ?_
  refine l_sld C (6 * k + 1) (nI_add _ 1) (by omega) hL d_L_1077 ?_
  refine l_cmI C mv_M_fit ml_L_107 d_L_1078 (t_M_fit C.2.2.2.1 hm) rfl rfl (by decide) (Nat.le_of_ble_eq_true rfl) ?_
  refine l_eq (tgt := 1693) C d_L_1081 (by decide) ?_
  exact K _ _ hr
def Sm_where (Rel : Nat → Mm → Mm → Prop) (N : Nat) : Prop := ∀ k, k < 512 → ∀ (a1 : Int32) (a2 : Int32) (a3 : Int32), Ok (Rel k) (Rel (k + 1)) (f_W_where N a1 a2 a3) (f_M_where N a1 a2 a3)
set_option maxHeartbeats 4000000 in
theorem lc_22 {dA : Nat → ClassId} {D : va_G} {aX aM : Nat → Nat} {p : Program} {l : Launch} {e : Env} {s : State} {m : MethodId} {b L : Nat} {xs : Nat → Int32} {below : List Frame} {meth : Method} {c : Code} (C : ClL dA D aX aM p s m meth c b L xs) (hL : L ≤ 3072) {Rel : Nat → Mm → Mm → Prop} {N : Nat} (S : Sm_where Rel N) {k : Nat} (hk : k < 512) (h6 : 6 * k + 6 ≤ L) {μx μm : Mm} (hrel : Rel k μx μm) {lv : Nat → Option Value} (hl0 : lv 0 = some (.ref b)) (hl1 : lv 1 = some (.ref (aX 0))) (hl2 : lv 2 = some (.ref (aM 0))) (hl3 : lv 3 = some (.int (nI (6 * k)))) (K : ∀ μ1 μ2, Rel (k + 1) μ1 μ2 → GL dA D aX aM p l e s m b below meth c 1693 lv [] μ1 μ2) : GL dA D aX aM p l e s m b below meth c 1086 lv [] μx μm := by
  obtain ⟨r, μ1, μ2, hx, hm, hr⟩ := S k hk (xs (6 * k + 1)) (xs (6 * k + 2)) (xs (6 * k + 3))  μx μm hrel
  refine l_aload_n C d_L_1086 rfl hl1 ?_
  refine l_aload_n C d_L_1087 rfl hl0 ?_
  refine l_iload_n C d_L_1088 rfl hl3 ?_
  refine l_iconst (v := 1) C d_L_1089 (by decide) ?_
  refine l_iadd C d_L_1090 ?_
  refine l_sld C (6 * k + 1) (nI_add _ 1) (by omega) hL d_L_1091 ?_
  refine l_aload_n C d_L_1092 rfl hl0 ?_
  refine l_iload_n C d_L_1093 rfl hl3 ?_
  refine l_iconst (v := 2) C d_L_1094 (by decide) ?_
  refine l_iadd C d_L_1095 ?_
  refine l_sld C (6 * k + 2) (nI_add _ 2) (by omega) hL d_L_1096 ?_
  refine l_aload_n C d_L_1097 rfl hl0 ?_
  refine l_iload_n C d_L_1098 rfl hl3 ?_
  refine l_iconst (v := 3) C d_L_1099 (by decide) ?_
  refine l_iadd C d_L_1100 ?_
  refine l_sld C (6 * k + 3) (nI_add _ 3) (by omega) hL d_L_1101 ?_
  refine l_cxI C mv_W_where ml_L_108 d_L_1102 (t_W_where C.2.2.1 hx) rfl rfl (by decide) (Nat.le_of_ble_eq_true rfl) ?_
  refine l_aload_n C d_L_1105 rfl hl2 ?_
  refine l_aload_n C d_L_1106 rfl hl0 ?_
  refine l_iload_n C d_L_1107 rfl hl3 ?_
  refine l_iconst (v := 1) C d_L_1108 (by decide) ?_
  refine l_iadd C d_L_1109 ?_
  refine l_sld C (6 * k + 1) (nI_add _ 1) (by omega) hL d_L_1110 ?_
  refine l_aload_n C d_L_1111 rfl hl0 ?_
  refine l_iload_n C d_L_1112 rfl hl3 ?_
  refine l_iconst (v := 2) C d_L_1113 (by decide) ?_
  refine l_iadd C d_L_1114 ?_
  refine l_sld C (6 * k + 2) (nI_add _ 2) (by omega) hL d_L_1115 ?_
  refine l_aload_n C d_L_1116 rfl hl0 ?_
  refine l_iload_n C d_L_1117 rfl hl3 ?_
  refine l_iconst (v := 3) C d_L_1118 (by decide) ?_
  refine l_iadd C d_L_1119 ?_
  refine l_sld C (6 * k + 3) (nI_add _ 3) (by omega) hL d_L_1120 ?_
  refine l_cmI C mv_M_where ml_L_111 d_L_1121 (t_M_where C.2.2.2.1 hm) rfl rfl (by decide) (Nat.le_of_ble_eq_true rfl) ?_
  refine l_eq (tgt := 1693) C d_L_1124 (by decide) ?_
  exact K _ _ hr
def Sm_joint (Rel : Nat → Mm → Mm → Prop) (N : Nat) : Prop := ∀ k, k < 512 → Ok (Rel k) (Rel (k + 1)) (f_W_joint N ) (f_M_joint N )
set_option maxHeartbeats 4000000 in
theorem lc_23 {dA : Nat → ClassId} {D : va_G} {aX aM : Nat → Nat} {p : Program} {l : Launch} {e : Env} {s : State} {m : MethodId} {b L : Nat} {xs : Nat → Int32} {below : List Frame} {meth : Method} {c : Code} (C : ClL dA D aX aM p s m meth c b L xs) (hL : L ≤ 3072) {Rel : Nat → Mm → Mm → Prop} {N : Nat} (S : Sm_joint Rel N) {k : Nat} (hk : k < 512) (h6 : 6 * k + 6 ≤ L) {μx μm : Mm} (hrel : Rel k μx μm) {lv : Nat → Option Value} (hl0 : lv 0 = some (.ref b)) (hl1 : lv 1 = some (.ref (aX 0))) (hl2 : lv 2 = some (.ref (aM 0))) (hl3 : lv 3 = some (.int (nI (6 * k)))) (K : ∀ μ1 μ2, Rel (k + 1) μ1 μ2 → GL dA D aX aM p l e s m b below meth c 1693 lv [] μ1 μ2) : GL dA D aX aM p l e s m b below meth c 1129 lv [] μx μm := by
  obtain ⟨r, μ1, μ2, hx, hm, hr⟩ := S k hk   μx μm hrel
  refine l_aload_n C d_L_1129 rfl hl1 ?_
  refine l_cxI C mv_W_joint ml_L_112 d_L_1130 (t_W_joint C.2.2.1 hx) rfl rfl (by decide) (Nat.le_of_ble_eq_true rfl) ?_
  refine l_aload_n C d_L_1133 rfl hl2 ?_
  refine l_cmI C mv_M_joint ml_L_116 d_L_1134 (t_M_joint C.2.2.2.1 hm) rfl rfl (by decide) (Nat.le_of_ble_eq_true rfl) ?_
  refine l_eq (tgt := 1693) C d_L_1137 (by decide) ?_
  exact K _ _ hr
def Sm_seen (Rel : Nat → Mm → Mm → Prop) (N : Nat) : Prop := ∀ k, k < 512 → ∀ (a1 : Int32), Ok (Rel k) (Rel (k + 1)) (f_W_seen N a1) (f_M_seen N a1)
set_option maxHeartbeats 4000000 in
theorem lc_24 {dA : Nat → ClassId} {D : va_G} {aX aM : Nat → Nat} {p : Program} {l : Launch} {e : Env} {s : State} {m : MethodId} {b L : Nat} {xs : Nat → Int32} {below : List Frame} {meth : Method} {c : Code} (C : ClL dA D aX aM p s m meth c b L xs) (hL : L ≤ 3072) {Rel : Nat → Mm → Mm → Prop} {N : Nat} (S : Sm_seen Rel N) {k : Nat} (hk : k < 512) (h6 : 6 * k + 6 ≤ L) {μx μm : Mm} (hrel : Rel k μx μm) {lv : Nat → Option Value} (hl0 : lv 0 = some (.ref b)) (hl1 : lv 1 = some (.ref (aX 0))) (hl2 : lv 2 = some (.ref (aM 0))) (hl3 : lv 3 = some (.int (nI (6 * k)))) (K : ∀ μ1 μ2, Rel (k + 1) μ1 μ2 → GL dA D aX aM p l e s m b below meth c 1693 lv [] μ1 μ2) : GL dA D aX aM p l e s m b below meth c 1142 lv [] μx μm := by
  obtain ⟨r, μ1, μ2, hx, hm, hr⟩ := S k hk (xs (6 * k + 1))  μx μm hrel
  refine l_aload_n C d_L_1142 rfl hl1 ?_
  refine l_aload_n C d_L_1143 rfl hl0 ?_
  refine l_iload_n C d_L_1144 rfl hl3 ?_
  refine l_iconst (v := 1) C d_L_1145 (by decide) ?_
  refine l_iadd C d_L_1146 ?_
  refine l_sld C (6 * k + 1) (nI_add _ 1) (by omega) hL d_L_1147 ?_
  refine l_cxI C mv_W_seen ml_L_117 d_L_1148 (t_W_seen C.2.2.1 hx) rfl rfl (by decide) (Nat.le_of_ble_eq_true rfl) ?_
  refine l_aload_n C d_L_1151 rfl hl2 ?_
  refine l_aload_n C d_L_1152 rfl hl0 ?_
  refine l_iload_n C d_L_1153 rfl hl3 ?_
  refine l_iconst (v := 1) C d_L_1154 (by decide) ?_
  refine l_iadd C d_L_1155 ?_
  refine l_sld C (6 * k + 1) (nI_add _ 1) (by omega) hL d_L_1156 ?_
  refine l_cmI C mv_M_seen ml_L_120 d_L_1157 (t_M_seen C.2.2.2.1 hm) rfl rfl (by decide) (Nat.le_of_ble_eq_true rfl) ?_
  refine l_eq (tgt := 1693) C d_L_1160 (by decide) ?_
  exact K _ _ hr
def Sm_idle (Rel : Nat → Mm → Mm → Prop) (N : Nat) : Prop := ∀ k, k < 512 → ∀ (a1 : Int32), Ok (Rel k) (Rel (k + 1)) (f_W_idle N a1) (f_M_idle N a1)
set_option maxHeartbeats 4000000 in
theorem lc_25 {dA : Nat → ClassId} {D : va_G} {aX aM : Nat → Nat} {p : Program} {l : Launch} {e : Env} {s : State} {m : MethodId} {b L : Nat} {xs : Nat → Int32} {below : List Frame} {meth : Method} {c : Code} (C : ClL dA D aX aM p s m meth c b L xs) (hL : L ≤ 3072) {Rel : Nat → Mm → Mm → Prop} {N : Nat} (S : Sm_idle Rel N) {k : Nat} (hk : k < 512) (h6 : 6 * k + 6 ≤ L) {μx μm : Mm} (hrel : Rel k μx μm) {lv : Nat → Option Value} (hl0 : lv 0 = some (.ref b)) (hl1 : lv 1 = some (.ref (aX 0))) (hl2 : lv 2 = some (.ref (aM 0))) (hl3 : lv 3 = some (.int (nI (6 * k)))) (K : ∀ μ1 μ2, Rel (k + 1) μ1 μ2 → GL dA D aX aM p l e s m b below meth c 1693 lv [] μ1 μ2) : GL dA D aX aM p l e s m b below meth c 1165 lv [] μx μm := by
  obtain ⟨r, μ1, μ2, hx, hm, hr⟩ := S k hk (xs (6 * k + 1))  μx μm hrel
  refine l_aload_n C d_L_1165 rfl hl1 ?_
  refine l_aload_n C d_L_1166 rfl hl0 ?_
  refine l_iload_n C d_L_1167 rfl hl3 ?_
  refine l_iconst (v := 1) C d_L_1168 (by decide) ?_
  refine l_iadd C d_L_1169 ?_
  refine l_sld C (6 * k + 1) (nI_add _ 1) (by omega) hL d_L_1170 ?_
  refine l_cxI C mv_W_idle ml_L_121 d_L_1171 (t_W_idle C.2.2.1 hx) rfl rfl (by decide) (Nat.le_of_ble_eq_true rfl) ?_
  refine l_aload_n C d_L_1174 rfl hl2 ?_
  refine l_aload_n C d_L_1175 rfl hl0 ?_
  refine l_iload_n C d_L_1176 rfl hl3 ?_
  refine l_iconst (v := 1) C d_L_1177 (by decide) ?_
  refine l_iadd C d_L_1178 ?_
  refine l_sld C (6 * k + 1) (nI_add _ 1) (by omega) hL d_L_1179 ?_
  refine l_cmI C mv_M_idle ml_L_124 d_L_1180 (t_M_idle C.2.2.2.1 hm) rfl rfl (by decide) (Nat.le_of_ble_eq_true rfl) ?_
  refine l_eq (tgt := 1693) C d_L_1183 (by decide) ?_
  exact K _ _ hr
def Sm_idleFrom (Rel : Nat → Mm → Mm → Prop) (N : Nat) : Prop := ∀ k, k < 512 → ∀ (a1 : Int32), Ok (Rel k) (Rel (k + 1)) (f_W_idleFrom N a1) (f_M_idleFrom N a1)
set_option maxHeartbeats 4000000 in
theorem lc_26 {dA : Nat → ClassId} {D : va_G} {aX aM : Nat → Nat} {p : Program} {l : Launch} {e : Env} {s : State} {m : MethodId} {b L : Nat} {xs : Nat → Int32} {below : List Frame} {meth : Method} {c : Code} (C : ClL dA D aX aM p s m meth c b L xs) (hL : L ≤ 3072) {Rel : Nat → Mm → Mm → Prop} {N : Nat} (S : Sm_idleFrom Rel N) {k : Nat} (hk : k < 512) (h6 : 6 * k + 6 ≤ L) {μx μm : Mm} (hrel : Rel k μx μm) {lv : Nat → Option Value} (hl0 : lv 0 = some (.ref b)) (hl1 : lv 1 = some (.ref (aX 0))) (hl2 : lv 2 = some (.ref (aM 0))) (hl3 : lv 3 = some (.int (nI (6 * k)))) (K : ∀ μ1 μ2, Rel (k + 1) μ1 μ2 → GL dA D aX aM p l e s m b below meth c 1693 lv [] μ1 μ2) : GL dA D aX aM p l e s m b below meth c 1188 lv [] μx μm := by
  obtain ⟨r, μ1, μ2, hx, hm, hr⟩ := S k hk (xs (6 * k + 1))  μx μm hrel
  refine l_aload_n C d_L_1188 rfl hl1 ?_
  refine l_aload_n C d_L_1189 rfl hl0 ?_
  refine l_iload_n C d_L_1190 rfl hl3 ?_
  refine l_iconst (v := 1) C d_L_1191 (by decide) ?_
  refine l_iadd C d_L_1192 ?_
  refine l_sld C (6 * k + 1) (nI_add _ 1) (by omega) hL d_L_1193 ?_
  refine l_cxI C mv_W_idleFrom ml_L_125 d_L_1194 (t_W_idleFrom C.2.2.1 hx) rfl rfl (by decide) (Nat.le_of_ble_eq_true rfl) ?_
  refine l_aload_n C d_L_1197 rfl hl2 ?_
  refine l_aload_n C d_L_1198 rfl hl0 ?_
  refine l_iload_n C d_L_1199 rfl hl3 ?_
  refine l_iconst (v := 1) C d_L_1200 (by decide) ?_
  refine l_iadd C d_L_1201 ?_
  refine l_sld C (6 * k + 1) (nI_add _ 1) (by omega) hL d_L_1202 ?_
  refine l_cmI C mv_M_idleFrom ml_L_128 d_L_1203 (t_M_idleFrom C.2.2.2.1 hm) rfl rfl (by decide) (Nat.le_of_ble_eq_true rfl) ?_
  refine l_eq (tgt := 1693) C d_L_1206 (by decide) ?_
  exact K _ _ hr
def Sm_worst (Rel : Nat → Mm → Mm → Prop) (N : Nat) : Prop := ∀ k, k < 512 → Ok (Rel k) (Rel (k + 1)) (f_W_worst N ) (f_M_worst N )
set_option maxHeartbeats 4000000 in
theorem lc_27 {dA : Nat → ClassId} {D : va_G} {aX aM : Nat → Nat} {p : Program} {l : Launch} {e : Env} {s : State} {m : MethodId} {b L : Nat} {xs : Nat → Int32} {below : List Frame} {meth : Method} {c : Code} (C : ClL dA D aX aM p s m meth c b L xs) (hL : L ≤ 3072) {Rel : Nat → Mm → Mm → Prop} {N : Nat} (S : Sm_worst Rel N) {k : Nat} (hk : k < 512) (h6 : 6 * k + 6 ≤ L) {μx μm : Mm} (hrel : Rel k μx μm) {lv : Nat → Option Value} (hl0 : lv 0 = some (.ref b)) (hl1 : lv 1 = some (.ref (aX 0))) (hl2 : lv 2 = some (.ref (aM 0))) (hl3 : lv 3 = some (.int (nI (6 * k)))) (K : ∀ μ1 μ2, Rel (k + 1) μ1 μ2 → GL dA D aX aM p l e s m b below meth c 1693 lv [] μ1 μ2) : GL dA D aX aM p l e s m b below meth c 1211 lv [] μx μm := by
  obtain ⟨r, μ1, μ2, hx, hm, hr⟩ := S k hk   μx μm hrel
  refine l_aload_n C d_L_1211 rfl hl1 ?_
  refine l_cxI C mv_W_worst ml_L_129 d_L_1212 (t_W_worst C.2.2.1 hx) rfl rfl (by decide) (Nat.le_of_ble_eq_true rfl) ?_
  refine l_aload_n C d_L_1215 rfl hl2 ?_
  refine l_cmI C mv_M_worst ml_L_132 d_L_1216 (t_M_worst C.2.2.2.1 hm) rfl rfl (by decide) (Nat.le_of_ble_eq_true rfl) ?_
  refine l_eq (tgt := 1693) C d_L_1219 (by decide) ?_
  exact K _ _ hr
def Sm_share (Rel : Nat → Mm → Mm → Prop) (N : Nat) : Prop := ∀ k, k < 512 → ∀ (a1 : Int32), Ok (Rel k) (Rel (k + 1)) (f_W_share N a1) (f_M_share N a1)
set_option maxHeartbeats 4000000 in
theorem lc_28 {dA : Nat → ClassId} {D : va_G} {aX aM : Nat → Nat} {p : Program} {l : Launch} {e : Env} {s : State} {m : MethodId} {b L : Nat} {xs : Nat → Int32} {below : List Frame} {meth : Method} {c : Code} (C : ClL dA D aX aM p s m meth c b L xs) (hL : L ≤ 3072) {Rel : Nat → Mm → Mm → Prop} {N : Nat} (S : Sm_share Rel N) {k : Nat} (hk : k < 512) (h6 : 6 * k + 6 ≤ L) {μx μm : Mm} (hrel : Rel k μx μm) {lv : Nat → Option Value} (hl0 : lv 0 = some (.ref b)) (hl1 : lv 1 = some (.ref (aX 0))) (hl2 : lv 2 = some (.ref (aM 0))) (hl3 : lv 3 = some (.int (nI (6 * k)))) (K : ∀ μ1 μ2, Rel (k + 1) μ1 μ2 → GL dA D aX aM p l e s m b below meth c 1693 lv [] μ1 μ2) : GL dA D aX aM p l e s m b below meth c 1224 lv [] μx μm := by
  obtain ⟨r, μ1, μ2, hx, hm, hr⟩ := S k hk (xs (6 * k + 1))  μx μm hrel
  refine l_aload_n C d_L_1224 rfl hl1 ?_
  refine l_aload_n C d_L_1225 rfl hl0 ?_
  refine l_iload_n C d_L_1226 rfl hl3 ?_
  refine l_iconst (v := 1) C d_L_1227 (by decide) ?_
  refine l_iadd C d_L_1228 ?_
  refine l_sld C (6 * k + 1) (nI_add _ 1) (by omega) hL d_L_1229 ?_
  refine l_cxI C mv_W_share ml_L_133 d_L_1230 (t_W_share C.2.2.1 hx) rfl rfl (by decide) (Nat.le_of_ble_eq_true rfl) ?_
  refine l_aload_n C d_L_1233 rfl hl2 ?_
  refine l_aload_n C d_L_1234 rfl hl0 ?_
  refine l_iload_n C d_L_1235 rfl hl3 ?_
  refine l_iconst (v := 1) C d_L_1236 (by decide) ?_
  refine l_iadd C d_L_1237 ?_
  refine l_sld C (6 * k + 1) (nI_add _ 1) (by omega) hL d_L_1238 ?_
  refine l_cmI C mv_M_share ml_L_136 d_L_1239 (t_M_share C.2.2.2.1 hm) rfl rfl (by decide) (Nat.le_of_ble_eq_true rfl) ?_
  refine l_eq (tgt := 1693) C d_L_1242 (by decide) ?_
  exact K _ _ hr
def Sm_chance (Rel : Nat → Mm → Mm → Prop) (N : Nat) : Prop := ∀ k, k < 512 → ∀ (a1 : Int32) (a2 : Int32), Ok (Rel k) (Rel (k + 1)) (f_W_chance N a1 a2) (f_M_chance N a1 a2)
set_option maxHeartbeats 4000000 in
theorem lc_29 {dA : Nat → ClassId} {D : va_G} {aX aM : Nat → Nat} {p : Program} {l : Launch} {e : Env} {s : State} {m : MethodId} {b L : Nat} {xs : Nat → Int32} {below : List Frame} {meth : Method} {c : Code} (C : ClL dA D aX aM p s m meth c b L xs) (hL : L ≤ 3072) {Rel : Nat → Mm → Mm → Prop} {N : Nat} (S : Sm_chance Rel N) {k : Nat} (hk : k < 512) (h6 : 6 * k + 6 ≤ L) {μx μm : Mm} (hrel : Rel k μx μm) {lv : Nat → Option Value} (hl0 : lv 0 = some (.ref b)) (hl1 : lv 1 = some (.ref (aX 0))) (hl2 : lv 2 = some (.ref (aM 0))) (hl3 : lv 3 = some (.int (nI (6 * k)))) (K : ∀ μ1 μ2, Rel (k + 1) μ1 μ2 → GL dA D aX aM p l e s m b below meth c 1693 lv [] μ1 μ2) : GL dA D aX aM p l e s m b below meth c 1247 lv [] μx μm := by
  obtain ⟨r, μ1, μ2, hx, hm, hr⟩ := S k hk (xs (6 * k + 1)) (xs (6 * k + 2))  μx μm hrel
  refine l_aload_n C d_L_1247 rfl hl1 ?_
  refine l_aload_n C d_L_1248 rfl hl0 ?_
  refine l_iload_n C d_L_1249 rfl hl3 ?_
  refine l_iconst (v := 1) C d_L_1250 (by decide) ?_
  refine l_iadd C d_L_1251 ?_
  refine l_sld C (6 * k + 1) (nI_add _ 1) (by omega) hL d_L_1252 ?_
  refine l_aload_n C d_L_1253 rfl hl0 ?_
  refine l_iload_n C d_L_1254 rfl hl3 ?_
  refine l_iconst (v := 2) C d_L_1255 (by decide) ?_
  refine l_iadd C d_L_1256 ?_
  refine l_sld C (6 * k + 2) (nI_add _ 2) (by omega) hL d_L_1257 ?_
  refine l_cxI C mv_W_chance ml_L_137 d_L_1258 (t_W_chance C.2.2.1 hx) rfl rfl (by decide) (Nat.le_of_ble_eq_true rfl) ?_
  refine l_aload_n C d_L_1261 rfl hl2 ?_
  refine l_aload_n C d_L_1262 rfl hl0 ?_
  refine l_iload_n C d_L_1263 rfl hl3 ?_
  refine l_iconst (v := 1) C d_L_1264 (by decide) ?_
  refine l_iadd C d_L_1265 ?_
  refine l_sld C (6 * k + 1) (nI_add _ 1) (by omega) hL d_L_1266 ?_
  refine l_aload_n C d_L_1267 rfl hl0 ?_
  refine l_iload_n C d_L_1268 rfl hl3 ?_
  refine l_iconst (v := 2) C d_L_1269 (by decide) ?_
  refine l_iadd C d_L_1270 ?_
  refine l_sld C (6 * k + 2) (nI_add _ 2) (by omega) hL d_L_1271 ?_
  refine l_cmI C mv_M_chance ml_L_140 d_L_1272 (t_M_chance C.2.2.2.1 hm) rfl rfl (by decide) (Nat.le_of_ble_eq_true rfl) ?_
  refine l_eq (tgt := 1693) C d_L_1275 (by decide) ?_
  exact K _ _ hr
def Sm_thief (Rel : Nat → Mm → Mm → Prop) (N : Nat) : Prop := ∀ k, k < 512 → ∀ (a1 : Int32), Ok (Rel k) (Rel (k + 1)) (f_W_thief N a1) (f_M_thief N a1)
set_option maxHeartbeats 4000000 in
theorem lc_30 {dA : Nat → ClassId} {D : va_G} {aX aM : Nat → Nat} {p : Program} {l : Launch} {e : Env} {s : State} {m : MethodId} {b L : Nat} {xs : Nat → Int32} {below : List Frame} {meth : Method} {c : Code} (C : ClL dA D aX aM p s m meth c b L xs) (hL : L ≤ 3072) {Rel : Nat → Mm → Mm → Prop} {N : Nat} (S : Sm_thief Rel N) {k : Nat} (hk : k < 512) (h6 : 6 * k + 6 ≤ L) {μx μm : Mm} (hrel : Rel k μx μm) {lv : Nat → Option Value} (hl0 : lv 0 = some (.ref b)) (hl1 : lv 1 = some (.ref (aX 0))) (hl2 : lv 2 = some (.ref (aM 0))) (hl3 : lv 3 = some (.int (nI (6 * k)))) (K : ∀ μ1 μ2, Rel (k + 1) μ1 μ2 → GL dA D aX aM p l e s m b below meth c 1693 lv [] μ1 μ2) : GL dA D aX aM p l e s m b below meth c 1280 lv [] μx μm := by
  obtain ⟨r, μ1, μ2, hx, hm, hr⟩ := S k hk (xs (6 * k + 1))  μx μm hrel
  refine l_aload_n C d_L_1280 rfl hl1 ?_
  refine l_aload_n C d_L_1281 rfl hl0 ?_
  refine l_iload_n C d_L_1282 rfl hl3 ?_
  refine l_iconst (v := 1) C d_L_1283 (by decide) ?_
  refine l_iadd C d_L_1284 ?_
  refine l_sld C (6 * k + 1) (nI_add _ 1) (by omega) hL d_L_1285 ?_
  refine l_cxI C mv_W_thief ml_L_141 d_L_1286 (t_W_thief C.2.2.1 hx) rfl rfl (by decide) (Nat.le_of_ble_eq_true rfl) ?_
  refine l_aload_n C d_L_1289 rfl hl2 ?_
  refine l_aload_n C d_L_1290 rfl hl0 ?_
  refine l_iload_n C d_L_1291 rfl hl3 ?_
  refine l_iconst (v := 1) C d_L_1292 (by decide) ?_
  refine l_iadd C d_L_1293 ?_
  refine l_sld C (6 * k + 1) (nI_add _ 1) (by omega) hL d_L_1294 ?_
  refine l_cmI C mv_M_thief ml_L_144 d_L_1295 (t_M_thief C.2.2.2.1 hm) rfl rfl (by decide) (Nat.le_of_ble_eq_true rfl) ?_
  refine l_eq (tgt := 1693) C d_L_1298 (by decide) ?_
  exact K _ _ hr
def Sm_safe (Rel : Nat → Mm → Mm → Prop) (N : Nat) : Prop := ∀ k, k < 512 → Ok (Rel k) (Rel (k + 1)) (f_W_safe N ) (f_M_safe N )
set_option maxHeartbeats 4000000 in
theorem lc_31 {dA : Nat → ClassId} {D : va_G} {aX aM : Nat → Nat} {p : Program} {l : Launch} {e : Env} {s : State} {m : MethodId} {b L : Nat} {xs : Nat → Int32} {below : List Frame} {meth : Method} {c : Code} (C : ClL dA D aX aM p s m meth c b L xs) (hL : L ≤ 3072) {Rel : Nat → Mm → Mm → Prop} {N : Nat} (S : Sm_safe Rel N) {k : Nat} (hk : k < 512) (h6 : 6 * k + 6 ≤ L) {μx μm : Mm} (hrel : Rel k μx μm) {lv : Nat → Option Value} (hl0 : lv 0 = some (.ref b)) (hl1 : lv 1 = some (.ref (aX 0))) (hl2 : lv 2 = some (.ref (aM 0))) (hl3 : lv 3 = some (.int (nI (6 * k)))) (K : ∀ μ1 μ2, Rel (k + 1) μ1 μ2 → GL dA D aX aM p l e s m b below meth c 1693 lv [] μ1 μ2) : GL dA D aX aM p l e s m b below meth c 1303 lv [] μx μm := by
  obtain ⟨r, μ1, μ2, hx, hm, hr⟩ := S k hk   μx μm hrel
  refine l_aload_n C d_L_1303 rfl hl1 ?_
  refine l_cxI C mv_W_safe ml_L_145 d_L_1304 (t_W_safe C.2.2.1 hx) rfl rfl (by decide) (Nat.le_of_ble_eq_true rfl) ?_
  refine l_aload_n C d_L_1307 rfl hl2 ?_
  refine l_cmI C mv_M_safe ml_L_148 d_L_1308 (t_M_safe C.2.2.2.1 hm) rfl rfl (by decide) (Nat.le_of_ble_eq_true rfl) ?_
  refine l_eq (tgt := 1693) C d_L_1311 (by decide) ?_
  exact K _ _ hr
def Sm_peril (Rel : Nat → Mm → Mm → Prop) (N : Nat) : Prop := ∀ k, k < 512 → ∀ (a1 : Int32), Ok (Rel k) (Rel (k + 1)) (f_W_peril N a1) (f_M_peril N a1)
set_option maxHeartbeats 4000000 in
theorem lc_32 {dA : Nat → ClassId} {D : va_G} {aX aM : Nat → Nat} {p : Program} {l : Launch} {e : Env} {s : State} {m : MethodId} {b L : Nat} {xs : Nat → Int32} {below : List Frame} {meth : Method} {c : Code} (C : ClL dA D aX aM p s m meth c b L xs) (hL : L ≤ 3072) {Rel : Nat → Mm → Mm → Prop} {N : Nat} (S : Sm_peril Rel N) {k : Nat} (hk : k < 512) (h6 : 6 * k + 6 ≤ L) {μx μm : Mm} (hrel : Rel k μx μm) {lv : Nat → Option Value} (hl0 : lv 0 = some (.ref b)) (hl1 : lv 1 = some (.ref (aX 0))) (hl2 : lv 2 = some (.ref (aM 0))) (hl3 : lv 3 = some (.int (nI (6 * k)))) (K : ∀ μ1 μ2, Rel (k + 1) μ1 μ2 → GL dA D aX aM p l e s m b below meth c 1693 lv [] μ1 μ2) : GL dA D aX aM p l e s m b below meth c 1316 lv [] μx μm := by
  obtain ⟨r, μ1, μ2, hx, hm, hr⟩ := S k hk (xs (6 * k + 1))  μx μm hrel
  refine l_aload_n C d_L_1316 rfl hl1 ?_
  refine l_aload_n C d_L_1317 rfl hl0 ?_
  refine l_iload_n C d_L_1318 rfl hl3 ?_
  refine l_iconst (v := 1) C d_L_1319 (by decide) ?_
  refine l_iadd C d_L_1320 ?_
  refine l_sld C (6 * k + 1) (nI_add _ 1) (by omega) hL d_L_1321 ?_
  refine l_cxI C mv_W_peril ml_L_149 d_L_1322 (t_W_peril C.2.2.1 hx) rfl rfl (by decide) (Nat.le_of_ble_eq_true rfl) ?_
  refine l_aload_n C d_L_1325 rfl hl2 ?_
  refine l_aload_n C d_L_1326 rfl hl0 ?_
  refine l_iload_n C d_L_1327 rfl hl3 ?_
  refine l_iconst (v := 1) C d_L_1328 (by decide) ?_
  refine l_iadd C d_L_1329 ?_
  refine l_sld C (6 * k + 1) (nI_add _ 1) (by omega) hL d_L_1330 ?_
  refine l_cmI C mv_M_peril ml_L_152 d_L_1331 (t_M_peril C.2.2.2.1 hm) rfl rfl (by decide) (Nat.le_of_ble_eq_true rfl) ?_
  refine l_eq (tgt := 1693) C d_L_1334 (by decide) ?_
  exact K _ _ hr
def Sm_meet (Rel : Nat → Mm → Mm → Prop) (N : Nat) : Prop := ∀ k, k < 512 → ∀ (a1 : Int32) (a2 : Int32) (a3 : Int32), Ok (Rel k) (Rel (k + 1)) (f_W_meet N a1 a2 a3) (f_M_meet N a1 a2 a3)
set_option maxHeartbeats 4000000 in
theorem lc_33 {dA : Nat → ClassId} {D : va_G} {aX aM : Nat → Nat} {p : Program} {l : Launch} {e : Env} {s : State} {m : MethodId} {b L : Nat} {xs : Nat → Int32} {below : List Frame} {meth : Method} {c : Code} (C : ClL dA D aX aM p s m meth c b L xs) (hL : L ≤ 3072) {Rel : Nat → Mm → Mm → Prop} {N : Nat} (S : Sm_meet Rel N) {k : Nat} (hk : k < 512) (h6 : 6 * k + 6 ≤ L) {μx μm : Mm} (hrel : Rel k μx μm) {lv : Nat → Option Value} (hl0 : lv 0 = some (.ref b)) (hl1 : lv 1 = some (.ref (aX 0))) (hl2 : lv 2 = some (.ref (aM 0))) (hl3 : lv 3 = some (.int (nI (6 * k)))) (K : ∀ μ1 μ2, Rel (k + 1) μ1 μ2 → GL dA D aX aM p l e s m b below meth c 1693 lv [] μ1 μ2) : GL dA D aX aM p l e s m b below meth c 1339 lv [] μx μm := by
  obtain ⟨r, μ1, μ2, hx, hm, hr⟩ := S k hk (xs (6 * k + 1)) (xs (6 * k + 2)) (xs (6 * k + 3))  μx μm hrel
  refine l_aload_n C d_L_1339 rfl hl1 ?_
  refine l_aload_n C d_L_1340 rfl hl0 ?_
  refine l_iload_n C d_L_1341 rfl hl3 ?_
  refine l_iconst (v := 1) C d_L_1342 (by decide) ?_
  refine l_iadd C d_L_1343 ?_
  refine l_sld C (6 * k + 1) (nI_add _ 1) (by omega) hL d_L_1344 ?_
  refine l_aload_n C d_L_1345 rfl hl0 ?_
  refine l_iload_n C d_L_1346 rfl hl3 ?_
  refine l_iconst (v := 2) C d_L_1347 (by decide) ?_
  refine l_iadd C d_L_1348 ?_
  refine l_sld C (6 * k + 2) (nI_add _ 2) (by omega) hL d_L_1349 ?_
  refine l_aload_n C d_L_1350 rfl hl0 ?_
  refine l_iload_n C d_L_1351 rfl hl3 ?_
  refine l_iconst (v := 3) C d_L_1352 (by decide) ?_
  refine l_iadd C d_L_1353 ?_
  refine l_sld C (6 * k + 3) (nI_add _ 3) (by omega) hL d_L_1354 ?_
  refine l_cxI C mv_W_meet ml_L_153 d_L_1355 (t_W_meet C.2.2.1 hx) rfl rfl (by decide) (Nat.le_of_ble_eq_true rfl) ?_
  refine l_aload_n C d_L_1358 rfl hl2 ?_
  refine l_aload_n C d_L_1359 rfl hl0 ?_
  refine l_iload_n C d_L_1360 rfl hl3 ?_
  refine l_iconst (v := 1) C d_L_1361 (by decide) ?_
  refine l_iadd C d_L_1362 ?_
  refine l_sld C (6 * k + 1) (nI_add _ 1) (by omega) hL d_L_1363 ?_
  refine l_aload_n C d_L_1364 rfl hl0 ?_
  refine l_iload_n C d_L_1365 rfl hl3 ?_
  refine l_iconst (v := 2) C d_L_1366 (by decide) ?_
  refine l_iadd C d_L_1367 ?_
  refine l_sld C (6 * k + 2) (nI_add _ 2) (by omega) hL d_L_1368 ?_
  refine l_aload_n C d_L_1369 rfl hl0 ?_
  refine l_iload_n C d_L_1370 rfl hl3 ?_
  refine l_iconst (v := 3) C d_L_1371 (by decide) ?_
  refine l_iadd C d_L_1372 ?_
  refine l_sld C (6 * k + 3) (nI_add _ 3) (by omega) hL d_L_1373 ?_
  refine l_cmI C mv_M_meet ml_L_156 d_L_1374 (t_M_meet C.2.2.2.1 hm) rfl rfl (by decide) (Nat.le_of_ble_eq_true rfl) ?_
  refine l_eq (tgt := 1693) C d_L_1377 (by decide) ?_
  exact K _ _ hr
def Sm_word (Rel : Nat → Mm → Mm → Prop) (N : Nat) : Prop := ∀ k, k < 512 → ∀ (a1 : Int32) (a2 : Int32) (a3 : Int32), Ok (Rel k) (Rel (k + 1)) (f_W_word N a1 a2 a3) (f_M_word N a1 a2 a3)
set_option maxHeartbeats 4000000 in
theorem lc_34 {dA : Nat → ClassId} {D : va_G} {aX aM : Nat → Nat} {p : Program} {l : Launch} {e : Env} {s : State} {m : MethodId} {b L : Nat} {xs : Nat → Int32} {below : List Frame} {meth : Method} {c : Code} (C : ClL dA D aX aM p s m meth c b L xs) (hL : L ≤ 3072) {Rel : Nat → Mm → Mm → Prop} {N : Nat} (S : Sm_word Rel N) {k : Nat} (hk : k < 512) (h6 : 6 * k + 6 ≤ L) {μx μm : Mm} (hrel : Rel k μx μm) {lv : Nat → Option Value} (hl0 : lv 0 = some (.ref b)) (hl1 : lv 1 = some (.ref (aX 0))) (hl2 : lv 2 = some (.ref (aM 0))) (hl3 : lv 3 = some (.int (nI (6 * k)))) (K : ∀ μ1 μ2, Rel (k + 1) μ1 μ2 → GL dA D aX aM p l e s m b below meth c 1693 lv [] μ1 μ2) : GL dA D aX aM p l e s m b below meth c 1382 lv [] μx μm := by
  obtain ⟨r, μ1, μ2, hx, hm, hr⟩ := S k hk (xs (6 * k + 1)) (xs (6 * k + 2)) (xs (6 * k + 3))  μx μm hrel
  refine l_aload_n C d_L_1382 rfl hl1 ?_
  refine l_aload_n C d_L_1383 rfl hl0 ?_
  refine l_iload_n C d_L_1384 rfl hl3 ?_
  refine l_iconst (v := 1) C d_L_1385 (by decide) ?_
  refine l_iadd C d_L_1386 ?_
  refine l_sld C (6 * k + 1) (nI_add _ 1) (by omega) hL d_L_1387 ?_
  refine l_aload_n C d_L_1388 rfl hl0 ?_
  refine l_iload_n C d_L_1389 rfl hl3 ?_
  refine l_iconst (v := 2) C d_L_1390 (by decide) ?_
  refine l_iadd C d_L_1391 ?_
  refine l_sld C (6 * k + 2) (nI_add _ 2) (by omega) hL d_L_1392 ?_
  refine l_aload_n C d_L_1393 rfl hl0 ?_
  refine l_iload_n C d_L_1394 rfl hl3 ?_
  refine l_iconst (v := 3) C d_L_1395 (by decide) ?_
  refine l_iadd C d_L_1396 ?_
  refine l_sld C (6 * k + 3) (nI_add _ 3) (by omega) hL d_L_1397 ?_
  refine l_cxI C mv_W_word ml_L_157 d_L_1398 (t_W_word C.2.2.1 hx) rfl rfl (by decide) (Nat.le_of_ble_eq_true rfl) ?_
  refine l_aload_n C d_L_1401 rfl hl2 ?_
  refine l_aload_n C d_L_1402 rfl hl0 ?_
  refine l_iload_n C d_L_1403 rfl hl3 ?_
  refine l_iconst (v := 1) C d_L_1404 (by decide) ?_
  refine l_iadd C d_L_1405 ?_
  refine l_sld C (6 * k + 1) (nI_add _ 1) (by omega) hL d_L_1406 ?_
  refine l_aload_n C d_L_1407 rfl hl0 ?_
  refine l_iload_n C d_L_1408 rfl hl3 ?_
  refine l_iconst (v := 2) C d_L_1409 (by decide) ?_
  refine l_iadd C d_L_1410 ?_
  refine l_sld C (6 * k + 2) (nI_add _ 2) (by omega) hL d_L_1411 ?_
  refine l_aload_n C d_L_1412 rfl hl0 ?_
  refine l_iload_n C d_L_1413 rfl hl3 ?_
  refine l_iconst (v := 3) C d_L_1414 (by decide) ?_
  refine l_iadd C d_L_1415 ?_
  refine l_sld C (6 * k + 3) (nI_add _ 3) (by omega) hL d_L_1416 ?_
  refine l_cmI C mv_M_word ml_L_160 d_L_1417 (t_M_word C.2.2.2.1 hm) rfl rfl (by decide) (Nat.le_of_ble_eq_true rfl) ?_
  refine l_eq (tgt := 1693) C d_L_1420 (by decide) ?_
  exact K _ _ hr
def Sm_spread (Rel : Nat → Mm → Mm → Prop) (N : Nat) : Prop := ∀ k, k < 512 → ∀ (a1 : Int32) (a2 : Int32), Ok (Rel k) (Rel (k + 1)) (f_W_spread N a1 a2) (f_M_spread N a1 a2)
set_option maxHeartbeats 4000000 in
theorem lc_35 {dA : Nat → ClassId} {D : va_G} {aX aM : Nat → Nat} {p : Program} {l : Launch} {e : Env} {s : State} {m : MethodId} {b L : Nat} {xs : Nat → Int32} {below : List Frame} {meth : Method} {c : Code} (C : ClL dA D aX aM p s m meth c b L xs) (hL : L ≤ 3072) {Rel : Nat → Mm → Mm → Prop} {N : Nat} (S : Sm_spread Rel N) {k : Nat} (hk : k < 512) (h6 : 6 * k + 6 ≤ L) {μx μm : Mm} (hrel : Rel k μx μm) {lv : Nat → Option Value} (hl0 : lv 0 = some (.ref b)) (hl1 : lv 1 = some (.ref (aX 0))) (hl2 : lv 2 = some (.ref (aM 0))) (hl3 : lv 3 = some (.int (nI (6 * k)))) (K : ∀ μ1 μ2, Rel (k + 1) μ1 μ2 → GL dA D aX aM p l e s m b below meth c 1693 lv [] μ1 μ2) : GL dA D aX aM p l e s m b below meth c 1425 lv [] μx μm := by
  obtain ⟨r, μ1, μ2, hx, hm, hr⟩ := S k hk (xs (6 * k + 1)) (xs (6 * k + 2))  μx μm hrel
  refine l_aload_n C d_L_1425 rfl hl1 ?_
  refine l_aload_n C d_L_1426 rfl hl0 ?_
  refine l_iload_n C d_L_1427 rfl hl3 ?_
  refine l_iconst (v := 1) C d_L_1428 (by decide) ?_
  refine l_iadd C d_L_1429 ?_
  refine l_sld C (6 * k + 1) (nI_add _ 1) (by omega) hL d_L_1430 ?_
  refine l_aload_n C d_L_1431 rfl hl0 ?_
  refine l_iload_n C d_L_1432 rfl hl3 ?_
  refine l_iconst (v := 2) C d_L_1433 (by decide) ?_
  refine l_iadd C d_L_1434 ?_
  refine l_sld C (6 * k + 2) (nI_add _ 2) (by omega) hL d_L_1435 ?_
  refine l_cxI C mv_W_spread ml_L_161 d_L_1436 (t_W_spread C.2.2.1 hx) rfl rfl (by decide) (Nat.le_of_ble_eq_true rfl) ?_
  refine l_aload_n C d_L_1439 rfl hl2 ?_
  refine l_aload_n C d_L_1440 rfl hl0 ?_
  refine l_iload_n C d_L_1441 rfl hl3 ?_
  refine l_iconst (v := 1) C d_L_1442 (by decide) ?_
  refine l_iadd C d_L_1443 ?_
  refine l_sld C (6 * k + 1) (nI_add _ 1) (by omega) hL d_L_1444 ?_
  refine l_aload_n C d_L_1445 rfl hl0 ?_
  refine l_iload_n C d_L_1446 rfl hl3 ?_
  refine l_iconst (v := 2) C d_L_1447 (by decide) ?_
  refine l_iadd C d_L_1448 ?_
  refine l_sld C (6 * k + 2) (nI_add _ 2) (by omega) hL d_L_1449 ?_
  refine l_cmI C mv_M_spread ml_L_164 d_L_1450 (t_M_spread C.2.2.2.1 hm) rfl rfl (by decide) (Nat.le_of_ble_eq_true rfl) ?_
  refine l_eq (tgt := 1693) C d_L_1453 (by decide) ?_
  exact K _ _ hr
def Sm_round (Rel : Nat → Mm → Mm → Prop) (N : Nat) : Prop := ∀ k, k < 512 → Ok (Rel k) (Rel (k + 1)) (f_W_round N ) (f_M_round N )
set_option maxHeartbeats 4000000 in
theorem lc_36 {dA : Nat → ClassId} {D : va_G} {aX aM : Nat → Nat} {p : Program} {l : Launch} {e : Env} {s : State} {m : MethodId} {b L : Nat} {xs : Nat → Int32} {below : List Frame} {meth : Method} {c : Code} (C : ClL dA D aX aM p s m meth c b L xs) (hL : L ≤ 3072) {Rel : Nat → Mm → Mm → Prop} {N : Nat} (S : Sm_round Rel N) {k : Nat} (hk : k < 512) (h6 : 6 * k + 6 ≤ L) {μx μm : Mm} (hrel : Rel k μx μm) {lv : Nat → Option Value} (hl0 : lv 0 = some (.ref b)) (hl1 : lv 1 = some (.ref (aX 0))) (hl2 : lv 2 = some (.ref (aM 0))) (hl3 : lv 3 = some (.int (nI (6 * k)))) (K : ∀ μ1 μ2, Rel (k + 1) μ1 μ2 → GL dA D aX aM p l e s m b below meth c 1693 lv [] μ1 μ2) : GL dA D aX aM p l e s m b below meth c 1458 lv [] μx μm := by
  obtain ⟨r, μ1, μ2, hx, hm, hr⟩ := S k hk   μx μm hrel
  refine l_aload_n C d_L_1458 rfl hl1 ?_
  refine l_cxI C mv_W_round ml_L_165 d_L_1459 (t_W_round C.2.2.1 hx) rfl rfl (by decide) (Nat.le_of_ble_eq_true rfl) ?_
  refine l_aload_n C d_L_1462 rfl hl2 ?_
  refine l_cmI C mv_M_round ml_L_168 d_L_1463 (t_M_round C.2.2.2.1 hm) rfl rfl (by decide) (Nat.le_of_ble_eq_true rfl) ?_
  refine l_eq (tgt := 1693) C d_L_1466 (by decide) ?_
  exact K _ _ hr
def Sm_roundAt (Rel : Nat → Mm → Mm → Prop) (N : Nat) : Prop := ∀ k, k < 512 → ∀ (a1 : Int32), Ok (Rel k) (Rel (k + 1)) (f_W_roundAt N a1) (f_M_roundAt N a1)
set_option maxHeartbeats 4000000 in
theorem lc_37 {dA : Nat → ClassId} {D : va_G} {aX aM : Nat → Nat} {p : Program} {l : Launch} {e : Env} {s : State} {m : MethodId} {b L : Nat} {xs : Nat → Int32} {below : List Frame} {meth : Method} {c : Code} (C : ClL dA D aX aM p s m meth c b L xs) (hL : L ≤ 3072) {Rel : Nat → Mm → Mm → Prop} {N : Nat} (S : Sm_roundAt Rel N) {k : Nat} (hk : k < 512) (h6 : 6 * k + 6 ≤ L) {μx μm : Mm} (hrel : Rel k μx μm) {lv : Nat → Option Value} (hl0 : lv 0 = some (.ref b)) (hl1 : lv 1 = some (.ref (aX 0))) (hl2 : lv 2 = some (.ref (aM 0))) (hl3 : lv 3 = some (.int (nI (6 * k)))) (K : ∀ μ1 μ2, Rel (k + 1) μ1 μ2 → GL dA D aX aM p l e s m b below meth c 1693 lv [] μ1 μ2) : GL dA D aX aM p l e s m b below meth c 1471 lv [] μx μm := by
  obtain ⟨r, μ1, μ2, hx, hm, hr⟩ := S k hk (xs (6 * k + 1))  μx μm hrel
  refine l_aload_n C d_L_1471 rfl hl1 ?_
  refine l_aload_n C d_L_1472 rfl hl0 ?_
  refine l_iload_n C d_L_1473 rfl hl3 ?_
  refine l_iconst (v := 1) C d_L_1474 (by decide) ?_
  refine l_iadd C d_L_1475 ?_
  refine l_sld C (6 * k + 1) (nI_add _ 1) (by omega) hL d_L_1476 ?_
  refine l_cxI C mv_W_roundAt ml_L_169 d_L_1477 (t_W_roundAt C.2.2.1 hx) rfl rfl (by decide) (Nat.le_of_ble_eq_true rfl) ?_
  refine l_aload_n C d_L_1480 rfl hl2 ?_
  refine l_aload_n C d_L_1481 rfl hl0 ?_
  refine l_iload_n C d_L_1482 rfl hl3 ?_
  refine l_iconst (v := 1) C d_L_1483 (by decide) ?_
  refine l_iadd C d_L_1484 ?_
  refine l_sld C (6 * k + 1) (nI_add _ 1) (by omega) hL d_L_1485 ?_
  refine l_cmI C mv_M_roundAt ml_L_172 d_L_1486 (t_M_roundAt C.2.2.2.1 hm) rfl rfl (by decide) (Nat.le_of_ble_eq_true rfl) ?_
  refine l_eq (tgt := 1693) C d_L_1489 (by decide) ?_
  exact K _ _ hr
def Sm_parting (Rel : Nat → Mm → Mm → Prop) (N : Nat) : Prop := ∀ k, k < 512 → Ok (Rel k) (Rel (k + 1)) (f_W_parting N ) (f_M_parting N )
set_option maxHeartbeats 4000000 in
theorem lc_38 {dA : Nat → ClassId} {D : va_G} {aX aM : Nat → Nat} {p : Program} {l : Launch} {e : Env} {s : State} {m : MethodId} {b L : Nat} {xs : Nat → Int32} {below : List Frame} {meth : Method} {c : Code} (C : ClL dA D aX aM p s m meth c b L xs) (hL : L ≤ 3072) {Rel : Nat → Mm → Mm → Prop} {N : Nat} (S : Sm_parting Rel N) {k : Nat} (hk : k < 512) (h6 : 6 * k + 6 ≤ L) {μx μm : Mm} (hrel : Rel k μx μm) {lv : Nat → Option Value} (hl0 : lv 0 = some (.ref b)) (hl1 : lv 1 = some (.ref (aX 0))) (hl2 : lv 2 = some (.ref (aM 0))) (hl3 : lv 3 = some (.int (nI (6 * k)))) (K : ∀ μ1 μ2, Rel (k + 1) μ1 μ2 → GL dA D aX aM p l e s m b below meth c 1693 lv [] μ1 μ2) : GL dA D aX aM p l e s m b below meth c 1494 lv [] μx μm := by
  obtain ⟨r, μ1, μ2, hx, hm, hr⟩ := S k hk   μx μm hrel
  refine l_aload_n C d_L_1494 rfl hl1 ?_
  refine l_cxI C mv_W_parting ml_L_173 d_L_1495 (t_W_parting C.2.2.1 hx) rfl rfl (by decide) (Nat.le_of_ble_eq_true rfl) ?_
  refine l_aload_n C d_L_1498 rfl hl2 ?_
  refine l_cmI C mv_M_parting ml_L_176 d_L_1499 (t_M_parting C.2.2.2.1 hm) rfl rfl (by decide) (Nat.le_of_ble_eq_true rfl) ?_
  refine l_eq (tgt := 1693) C d_L_1502 (by decide) ?_
  exact K _ _ hr
def Sm_partOf (Rel : Nat → Mm → Mm → Prop) (N : Nat) : Prop := ∀ k, k < 512 → ∀ (a1 : Int32) (a2 : Int32), (a2 = 0 ∨ a2 = 1) → Ok (Rel k) (Rel (k + 1)) (f_W_partOf N a1 a2) (f_M_partOf N a1 a2)
set_option maxHeartbeats 4000000 in
theorem lc_39 {dA : Nat → ClassId} {D : va_G} {aX aM : Nat → Nat} {p : Program} {l : Launch} {e : Env} {s : State} {m : MethodId} {b L : Nat} {xs : Nat → Int32} {below : List Frame} {meth : Method} {c : Code} (C : ClL dA D aX aM p s m meth c b L xs) (hL : L ≤ 3072) {Rel : Nat → Mm → Mm → Prop} {N : Nat} (S : Sm_partOf Rel N) {k : Nat} (hk : k < 512) (h6 : 6 * k + 6 ≤ L) {μx μm : Mm} (hrel : Rel k μx μm) {lv : Nat → Option Value} (hl0 : lv 0 = some (.ref b)) (hl1 : lv 1 = some (.ref (aX 0))) (hl2 : lv 2 = some (.ref (aM 0))) (hl3 : lv 3 = some (.int (nI (6 * k)))) (K : ∀ μ1 μ2, Rel (k + 1) μ1 μ2 → GL dA D aX aM p l e s m b below meth c 1693 lv [] μ1 μ2) : GL dA D aX aM p l e s m b below meth c 1507 lv [] μx μm := by
  by_cases hz1 : xs (6 * k + 2) = 0
  · obtain ⟨r, μ1, μ2, hx, hm, hr⟩ := S k hk (xs (6 * k + 1)) (0) (Or.inl rfl) μx μm hrel
    refine l_aload_n C d_L_1507 rfl hl1 ?_
    refine l_aload_n C d_L_1508 rfl hl0 ?_
    refine l_iload_n C d_L_1509 rfl hl3 ?_
    refine l_iconst (v := 1) C d_L_1510 (by decide) ?_
    refine l_iadd C d_L_1511 ?_
    refine l_sld C (6 * k + 1) (nI_add _ 1) (by omega) hL d_L_1512 ?_
    refine l_aload_n C d_L_1513 rfl hl0 ?_
    refine l_iload_n C d_L_1514 rfl hl3 ?_
    refine l_iconst (v := 2) C d_L_1515 (by decide) ?_
    refine l_iadd C d_L_1516 ?_
    refine l_sld C (6 * k + 2) (nI_add _ 2) (by omega) hL d_L_1517 ?_
    refine l_if0 (tgt := 1525) C d_L_1518 (by decide) (fun _ => ?_) (fun q => absurd hz1 q)
    refine l_iconst (v := 0) C d_L_1525 (by decide) ?_
    refine l_cxI C mv_W_partOf ml_L_177 d_L_1526 (t_W_partOf C.2.2.1 hx) rfl rfl (by decide) (Nat.le_of_ble_eq_true rfl) ?_
    refine l_aload_n C d_L_1529 rfl hl2 ?_
    refine l_aload_n C d_L_1530 rfl hl0 ?_
    refine l_iload_n C d_L_1531 rfl hl3 ?_
    refine l_iconst (v := 1) C d_L_1532 (by decide) ?_
    refine l_iadd C d_L_1533 ?_
    refine l_sld C (6 * k + 1) (nI_add _ 1) (by omega) hL d_L_1534 ?_
    refine l_aload_n C d_L_1535 rfl hl0 ?_
    refine l_iload_n C d_L_1536 rfl hl3 ?_
    refine l_iconst (v := 2) C d_L_1537 (by decide) ?_
    refine l_iadd C d_L_1538 ?_
    refine l_sld C (6 * k + 2) (nI_add _ 2) (by omega) hL d_L_1539 ?_
    refine l_if0 (tgt := 1547) C d_L_1540 (by decide) (fun _ => ?_) (fun q => absurd hz1 q)
    refine l_iconst (v := 0) C d_L_1547 (by decide) ?_
    refine l_cmI C mv_M_partOf ml_L_180 d_L_1548 (t_M_partOf C.2.2.2.1 hm) rfl rfl (by decide) (Nat.le_of_ble_eq_true rfl) ?_
    refine l_eq (tgt := 1693) C d_L_1551 (by decide) ?_
    exact K _ _ hr
  · obtain ⟨r, μ1, μ2, hx, hm, hr⟩ := S k hk (xs (6 * k + 1)) (1) (Or.inr rfl) μx μm hrel
    refine l_aload_n C d_L_1507 rfl hl1 ?_
    refine l_aload_n C d_L_1508 rfl hl0 ?_
    refine l_iload_n C d_L_1509 rfl hl3 ?_
    refine l_iconst (v := 1) C d_L_1510 (by decide) ?_
    refine l_iadd C d_L_1511 ?_
    refine l_sld C (6 * k + 1) (nI_add _ 1) (by omega) hL d_L_1512 ?_
    refine l_aload_n C d_L_1513 rfl hl0 ?_
    refine l_iload_n C d_L_1514 rfl hl3 ?_
    refine l_iconst (v := 2) C d_L_1515 (by decide) ?_
    refine l_iadd C d_L_1516 ?_
    refine l_sld C (6 * k + 2) (nI_add _ 2) (by omega) hL d_L_1517 ?_
    refine l_if0 (tgt := 1525) C d_L_1518 (by decide) (fun q => absurd q hz1) (fun _ => ?_)
    refine l_iconst (v := 1) C d_L_1521 (by decide) ?_
    refine l_goto (tgt := 1526) C d_L_1522 (by decide) ?_
    refine l_cxI C mv_W_partOf ml_L_177 d_L_1526 (t_W_partOf C.2.2.1 hx) rfl rfl (by decide) (Nat.le_of_ble_eq_true rfl) ?_
    refine l_aload_n C d_L_1529 rfl hl2 ?_
    refine l_aload_n C d_L_1530 rfl hl0 ?_
    refine l_iload_n C d_L_1531 rfl hl3 ?_
    refine l_iconst (v := 1) C d_L_1532 (by decide) ?_
    refine l_iadd C d_L_1533 ?_
    refine l_sld C (6 * k + 1) (nI_add _ 1) (by omega) hL d_L_1534 ?_
    refine l_aload_n C d_L_1535 rfl hl0 ?_
    refine l_iload_n C d_L_1536 rfl hl3 ?_
    refine l_iconst (v := 2) C d_L_1537 (by decide) ?_
    refine l_iadd C d_L_1538 ?_
    refine l_sld C (6 * k + 2) (nI_add _ 2) (by omega) hL d_L_1539 ?_
    refine l_if0 (tgt := 1547) C d_L_1540 (by decide) (fun q => absurd q hz1) (fun _ => ?_)
    refine l_iconst (v := 1) C d_L_1543 (by decide) ?_
    refine l_goto (tgt := 1548) C d_L_1544 (by decide) ?_
    refine l_cmI C mv_M_partOf ml_L_180 d_L_1548 (t_M_partOf C.2.2.2.1 hm) rfl rfl (by decide) (Nat.le_of_ble_eq_true rfl) ?_
    refine l_eq (tgt := 1693) C d_L_1551 (by decide) ?_
    exact K _ _ hr
def Sm_fuel (Rel : Nat → Mm → Mm → Prop) (N : Nat) : Prop := ∀ k, k < 512 → ∀ (a1 : Int32), Ok (Rel k) (Rel (k + 1)) (f_W_fuel N a1) (f_M_fuel N a1)
set_option maxHeartbeats 4000000 in
theorem lc_40 {dA : Nat → ClassId} {D : va_G} {aX aM : Nat → Nat} {p : Program} {l : Launch} {e : Env} {s : State} {m : MethodId} {b L : Nat} {xs : Nat → Int32} {below : List Frame} {meth : Method} {c : Code} (C : ClL dA D aX aM p s m meth c b L xs) (hL : L ≤ 3072) {Rel : Nat → Mm → Mm → Prop} {N : Nat} (S : Sm_fuel Rel N) {k : Nat} (hk : k < 512) (h6 : 6 * k + 6 ≤ L) {μx μm : Mm} (hrel : Rel k μx μm) {lv : Nat → Option Value} (hl0 : lv 0 = some (.ref b)) (hl1 : lv 1 = some (.ref (aX 0))) (hl2 : lv 2 = some (.ref (aM 0))) (hl3 : lv 3 = some (.int (nI (6 * k)))) (K : ∀ μ1 μ2, Rel (k + 1) μ1 μ2 → GL dA D aX aM p l e s m b below meth c 1693 lv [] μ1 μ2) : GL dA D aX aM p l e s m b below meth c 1556 lv [] μx μm := by
  obtain ⟨r, μ1, μ2, hx, hm, hr⟩ := S k hk (xs (6 * k + 1))  μx μm hrel
  refine l_aload_n C d_L_1556 rfl hl1 ?_
  refine l_aload_n C d_L_1557 rfl hl0 ?_
  refine l_iload_n C d_L_1558 rfl hl3 ?_
  refine l_iconst (v := 1) C d_L_1559 (by decide) ?_
  refine l_iadd C d_L_1560 ?_
  refine l_sld C (6 * k + 1) (nI_add _ 1) (by omega) hL d_L_1561 ?_
  refine l_cxI C mv_W_fuel ml_L_181 d_L_1562 (t_W_fuel C.2.2.1 hx) rfl rfl (by decide) (Nat.le_of_ble_eq_true rfl) ?_
  refine l_aload_n C d_L_1565 rfl hl2 ?_
  refine l_aload_n C d_L_1566 rfl hl0 ?_
  refine l_iload_n C d_L_1567 rfl hl3 ?_
  refine l_iconst (v := 1) C d_L_1568 (by decide) ?_
  refine l_iadd C d_L_1569 ?_
  refine l_sld C (6 * k + 1) (nI_add _ 1) (by omega) hL d_L_1570 ?_
  refine l_cmI C mv_M_fuel ml_L_184 d_L_1571 (t_M_fuel C.2.2.2.1 hm) rfl rfl (by decide) (Nat.le_of_ble_eq_true rfl) ?_
  refine l_eq (tgt := 1693) C d_L_1574 (by decide) ?_
  exact K _ _ hr
def Sm_asked (Rel : Nat → Mm → Mm → Prop) (N : Nat) : Prop := ∀ k, k < 512 → Ok (Rel k) (Rel (k + 1)) (f_W_asked N ) (f_M_asked N )
set_option maxHeartbeats 4000000 in
theorem lc_41 {dA : Nat → ClassId} {D : va_G} {aX aM : Nat → Nat} {p : Program} {l : Launch} {e : Env} {s : State} {m : MethodId} {b L : Nat} {xs : Nat → Int32} {below : List Frame} {meth : Method} {c : Code} (C : ClL dA D aX aM p s m meth c b L xs) (hL : L ≤ 3072) {Rel : Nat → Mm → Mm → Prop} {N : Nat} (S : Sm_asked Rel N) {k : Nat} (hk : k < 512) (h6 : 6 * k + 6 ≤ L) {μx μm : Mm} (hrel : Rel k μx μm) {lv : Nat → Option Value} (hl0 : lv 0 = some (.ref b)) (hl1 : lv 1 = some (.ref (aX 0))) (hl2 : lv 2 = some (.ref (aM 0))) (hl3 : lv 3 = some (.int (nI (6 * k)))) (K : ∀ μ1 μ2, Rel (k + 1) μ1 μ2 → GL dA D aX aM p l e s m b below meth c 1693 lv [] μ1 μ2) : GL dA D aX aM p l e s m b below meth c 1579 lv [] μx μm := by
  obtain ⟨r, μ1, μ2, hx, hm, hr⟩ := S k hk   μx μm hrel
  refine l_aload_n C d_L_1579 rfl hl1 ?_
  refine l_cxI C mv_W_asked ml_L_185 d_L_1580 (t_W_asked C.2.2.1 hx) rfl rfl (by decide) (Nat.le_of_ble_eq_true rfl) ?_
  refine l_aload_n C d_L_1583 rfl hl2 ?_
  refine l_cmI C mv_M_asked ml_L_188 d_L_1584 (t_M_asked C.2.2.2.1 hm) rfl rfl (by decide) (Nat.le_of_ble_eq_true rfl) ?_
  refine l_eq (tgt := 1693) C d_L_1587 (by decide) ?_
  exact K _ _ hr
def Sm_upper (Rel : Nat → Mm → Mm → Prop) (N : Nat) : Prop := ∀ k, k < 512 → Ok (Rel k) (Rel (k + 1)) (f_W_upper N ) (f_M_upper N )
set_option maxHeartbeats 4000000 in
theorem lc_42 {dA : Nat → ClassId} {D : va_G} {aX aM : Nat → Nat} {p : Program} {l : Launch} {e : Env} {s : State} {m : MethodId} {b L : Nat} {xs : Nat → Int32} {below : List Frame} {meth : Method} {c : Code} (C : ClL dA D aX aM p s m meth c b L xs) (hL : L ≤ 3072) {Rel : Nat → Mm → Mm → Prop} {N : Nat} (S : Sm_upper Rel N) {k : Nat} (hk : k < 512) (h6 : 6 * k + 6 ≤ L) {μx μm : Mm} (hrel : Rel k μx μm) {lv : Nat → Option Value} (hl0 : lv 0 = some (.ref b)) (hl1 : lv 1 = some (.ref (aX 0))) (hl2 : lv 2 = some (.ref (aM 0))) (hl3 : lv 3 = some (.int (nI (6 * k)))) (K : ∀ μ1 μ2, Rel (k + 1) μ1 μ2 → GL dA D aX aM p l e s m b below meth c 1693 lv [] μ1 μ2) : GL dA D aX aM p l e s m b below meth c 1592 lv [] μx μm := by
  obtain ⟨r, μ1, μ2, hx, hm, hr⟩ := S k hk   μx μm hrel
  refine l_aload_n C d_L_1592 rfl hl1 ?_
  refine l_cxL C mv_W_upper ml_L_189 d_L_1593 (t_W_upper C.2.2.1 hx) rfl rfl (by decide) (Nat.le_of_ble_eq_true rfl) ?_
  refine l_aload_n C d_L_1596 rfl hl2 ?_
  refine l_cmL C mv_M_upper ml_L_193 d_L_1597 (t_M_upper C.2.2.2.1 hm) rfl rfl (by decide) (Nat.le_of_ble_eq_true rfl) ?_
  refine l_lcmp C d_L_1600 ?_
  refine l_if0 (tgt := 1693) C d_L_1601 (by decide) (fun _ => ?_) (fun q => absurd (lg_self _) q)
  exact K _ _ hr
def Sm_lower (Rel : Nat → Mm → Mm → Prop) (N : Nat) : Prop := ∀ k, k < 512 → Ok (Rel k) (Rel (k + 1)) (f_W_lower N ) (f_M_lower N )
set_option maxHeartbeats 4000000 in
theorem lc_43 {dA : Nat → ClassId} {D : va_G} {aX aM : Nat → Nat} {p : Program} {l : Launch} {e : Env} {s : State} {m : MethodId} {b L : Nat} {xs : Nat → Int32} {below : List Frame} {meth : Method} {c : Code} (C : ClL dA D aX aM p s m meth c b L xs) (hL : L ≤ 3072) {Rel : Nat → Mm → Mm → Prop} {N : Nat} (S : Sm_lower Rel N) {k : Nat} (hk : k < 512) (h6 : 6 * k + 6 ≤ L) {μx μm : Mm} (hrel : Rel k μx μm) {lv : Nat → Option Value} (hl0 : lv 0 = some (.ref b)) (hl1 : lv 1 = some (.ref (aX 0))) (hl2 : lv 2 = some (.ref (aM 0))) (hl3 : lv 3 = some (.int (nI (6 * k)))) (K : ∀ μ1 μ2, Rel (k + 1) μ1 μ2 → GL dA D aX aM p l e s m b below meth c 1693 lv [] μ1 μ2) : GL dA D aX aM p l e s m b below meth c 1606 lv [] μx μm := by
  obtain ⟨r, μ1, μ2, hx, hm, hr⟩ := S k hk   μx μm hrel
  refine l_aload_n C d_L_1606 rfl hl1 ?_
  refine l_cxL C mv_W_lower ml_L_194 d_L_1607 (t_W_lower C.2.2.1 hx) rfl rfl (by decide) (Nat.le_of_ble_eq_true rfl) ?_
  refine l_aload_n C d_L_1610 rfl hl2 ?_
  refine l_cmL C mv_M_lower ml_L_197 d_L_1611 (t_M_lower C.2.2.2.1 hm) rfl rfl (by decide) (Nat.le_of_ble_eq_true rfl) ?_
  refine l_lcmp C d_L_1614 ?_
  refine l_if0 (tgt := 1693) C d_L_1615 (by decide) (fun _ => ?_) (fun q => absurd (lg_self _) q)
  exact K _ _ hr
def Sm_count (Rel : Nat → Mm → Mm → Prop) (N : Nat) : Prop := ∀ k, k < 512 → ∀ (a1 : Int32), Ok (Rel k) (Rel (k + 1)) (f_W_count N a1) (f_M_count N a1)
set_option maxHeartbeats 4000000 in
theorem lc_44 {dA : Nat → ClassId} {D : va_G} {aX aM : Nat → Nat} {p : Program} {l : Launch} {e : Env} {s : State} {m : MethodId} {b L : Nat} {xs : Nat → Int32} {below : List Frame} {meth : Method} {c : Code} (C : ClL dA D aX aM p s m meth c b L xs) (hL : L ≤ 3072) {Rel : Nat → Mm → Mm → Prop} {N : Nat} (S : Sm_count Rel N) {k : Nat} (hk : k < 512) (h6 : 6 * k + 6 ≤ L) {μx μm : Mm} (hrel : Rel k μx μm) {lv : Nat → Option Value} (hl0 : lv 0 = some (.ref b)) (hl1 : lv 1 = some (.ref (aX 0))) (hl2 : lv 2 = some (.ref (aM 0))) (hl3 : lv 3 = some (.int (nI (6 * k)))) (K : ∀ μ1 μ2, Rel (k + 1) μ1 μ2 → GL dA D aX aM p l e s m b below meth c 1693 lv [] μ1 μ2) : GL dA D aX aM p l e s m b below meth c 1620 lv [] μx μm := by
  obtain ⟨r, μ1, μ2, hx, hm, hr⟩ := S k hk (xs (6 * k + 1))  μx μm hrel
  refine l_aload_n C d_L_1620 rfl hl1 ?_
  refine l_aload_n C d_L_1621 rfl hl0 ?_
  refine l_iload_n C d_L_1622 rfl hl3 ?_
  refine l_iconst (v := 1) C d_L_1623 (by decide) ?_
  refine l_iadd C d_L_1624 ?_
  refine l_sld C (6 * k + 1) (nI_add _ 1) (by omega) hL d_L_1625 ?_
  refine l_cxI C mv_W_count ml_L_198 d_L_1626 (t_W_count C.2.2.1 hx) rfl rfl (by decide) (Nat.le_of_ble_eq_true rfl) ?_
  refine l_aload_n C d_L_1629 rfl hl2 ?_
  refine l_aload_n C d_L_1630 rfl hl0 ?_
  refine l_iload_n C d_L_1631 rfl hl3 ?_
  refine l_iconst (v := 1) C d_L_1632 (by decide) ?_
  refine l_iadd C d_L_1633 ?_
  refine l_sld C (6 * k + 1) (nI_add _ 1) (by omega) hL d_L_1634 ?_
  refine l_cmI C mv_M_count ml_L_201 d_L_1635 (t_M_count C.2.2.2.1 hm) rfl rfl (by decide) (Nat.le_of_ble_eq_true rfl) ?_
  refine l_eq (tgt := 1693) C d_L_1638 (by decide) ?_
  exact K _ _ hr
def Sm_finding (Rel : Nat → Mm → Mm → Prop) (N : Nat) : Prop := ∀ k, k < 512 → Ok (Rel k) (Rel (k + 1)) (f_W_finding N ) (f_M_finding N )
set_option maxHeartbeats 4000000 in
theorem lc_45 {dA : Nat → ClassId} {D : va_G} {aX aM : Nat → Nat} {p : Program} {l : Launch} {e : Env} {s : State} {m : MethodId} {b L : Nat} {xs : Nat → Int32} {below : List Frame} {meth : Method} {c : Code} (C : ClL dA D aX aM p s m meth c b L xs) (hL : L ≤ 3072) {Rel : Nat → Mm → Mm → Prop} {N : Nat} (S : Sm_finding Rel N) {k : Nat} (hk : k < 512) (h6 : 6 * k + 6 ≤ L) {μx μm : Mm} (hrel : Rel k μx μm) {lv : Nat → Option Value} (hl0 : lv 0 = some (.ref b)) (hl1 : lv 1 = some (.ref (aX 0))) (hl2 : lv 2 = some (.ref (aM 0))) (hl3 : lv 3 = some (.int (nI (6 * k)))) (K : ∀ μ1 μ2, Rel (k + 1) μ1 μ2 → GL dA D aX aM p l e s m b below meth c 1693 lv [] μ1 μ2) : GL dA D aX aM p l e s m b below meth c 1643 lv [] μx μm := by
  obtain ⟨r, μ1, μ2, hx, hm, hr⟩ := S k hk   μx μm hrel
  refine l_aload_n C d_L_1643 rfl hl1 ?_
  refine l_cxI C mv_W_finding ml_L_202 d_L_1644 (t_W_finding C.2.2.1 hx) rfl rfl (by decide) (Nat.le_of_ble_eq_true rfl) ?_
  refine l_aload_n C d_L_1647 rfl hl2 ?_
  refine l_cmI C mv_M_finding ml_L_205 d_L_1648 (t_M_finding C.2.2.2.1 hm) rfl rfl (by decide) (Nat.le_of_ble_eq_true rfl) ?_
  refine l_eq (tgt := 1693) C d_L_1651 (by decide) ?_
  exact K _ _ hr
def Sm_findings (Rel : Nat → Mm → Mm → Prop) (N : Nat) : Prop := ∀ k, k < 512 → ∀ (a1 : Int32), Ok (Rel k) (Rel (k + 1)) (f_W_findings N a1) (f_M_findings N a1)
set_option maxHeartbeats 4000000 in
theorem lc_46 {dA : Nat → ClassId} {D : va_G} {aX aM : Nat → Nat} {p : Program} {l : Launch} {e : Env} {s : State} {m : MethodId} {b L : Nat} {xs : Nat → Int32} {below : List Frame} {meth : Method} {c : Code} (C : ClL dA D aX aM p s m meth c b L xs) (hL : L ≤ 3072) {Rel : Nat → Mm → Mm → Prop} {N : Nat} (S : Sm_findings Rel N) {k : Nat} (hk : k < 512) (h6 : 6 * k + 6 ≤ L) {μx μm : Mm} (hrel : Rel k μx μm) {lv : Nat → Option Value} (hl0 : lv 0 = some (.ref b)) (hl1 : lv 1 = some (.ref (aX 0))) (hl2 : lv 2 = some (.ref (aM 0))) (hl3 : lv 3 = some (.int (nI (6 * k)))) (K : ∀ μ1 μ2, Rel (k + 1) μ1 μ2 → GL dA D aX aM p l e s m b below meth c 1693 lv [] μ1 μ2) : GL dA D aX aM p l e s m b below meth c 1656 lv [] μx μm := by
  obtain ⟨r, μ1, μ2, hx, hm, hr⟩ := S k hk (xs (6 * k + 1))  μx μm hrel
  refine l_aload_n C d_L_1656 rfl hl1 ?_
  refine l_aload_n C d_L_1657 rfl hl0 ?_
  refine l_iload_n C d_L_1658 rfl hl3 ?_
  refine l_iconst (v := 1) C d_L_1659 (by decide) ?_
  refine l_iadd C d_L_1660 ?_
  refine l_sld C (6 * k + 1) (nI_add _ 1) (by omega) hL d_L_1661 ?_
  refine l_cxI C mv_W_findings ml_L_206 d_L_1662 (t_W_findings C.2.2.1 hx) rfl rfl (by decide) (Nat.le_of_ble_eq_true rfl) ?_
  refine l_aload_n C d_L_1665 rfl hl2 ?_
  refine l_aload_n C d_L_1666 rfl hl0 ?_
  refine l_iload_n C d_L_1667 rfl hl3 ?_
  refine l_iconst (v := 1) C d_L_1668 (by decide) ?_
  refine l_iadd C d_L_1669 ?_
  refine l_sld C (6 * k + 1) (nI_add _ 1) (by omega) hL d_L_1670 ?_
  refine l_cmI C mv_M_findings ml_L_209 d_L_1671 (t_M_findings C.2.2.2.1 hm) rfl rfl (by decide) (Nat.le_of_ble_eq_true rfl) ?_
  refine l_eq (tgt := 1693) C d_L_1674 (by decide) ?_
  exact K _ _ hr
def Sm_digest (Rel : Nat → Mm → Mm → Prop) (N : Nat) : Prop := ∀ k, k < 512 → Ok (Rel k) (Rel (k + 1)) (f_W_digest N ) (f_M_digest N )
set_option maxHeartbeats 4000000 in
theorem lc_47 {dA : Nat → ClassId} {D : va_G} {aX aM : Nat → Nat} {p : Program} {l : Launch} {e : Env} {s : State} {m : MethodId} {b L : Nat} {xs : Nat → Int32} {below : List Frame} {meth : Method} {c : Code} (C : ClL dA D aX aM p s m meth c b L xs) (hL : L ≤ 3072) {Rel : Nat → Mm → Mm → Prop} {N : Nat} (S : Sm_digest Rel N) {k : Nat} (hk : k < 512) (h6 : 6 * k + 6 ≤ L) {μx μm : Mm} (hrel : Rel k μx μm) {lv : Nat → Option Value} (hl0 : lv 0 = some (.ref b)) (hl1 : lv 1 = some (.ref (aX 0))) (hl2 : lv 2 = some (.ref (aM 0))) (hl3 : lv 3 = some (.int (nI (6 * k)))) (K : ∀ μ1 μ2, Rel (k + 1) μ1 μ2 → GL dA D aX aM p l e s m b below meth c 1693 lv [] μ1 μ2) : GL dA D aX aM p l e s m b below meth c 1679 lv [] μx μm := by
  obtain ⟨r, μ1, μ2, hx, hm, hr⟩ := S k hk   μx μm hrel
  refine l_aload_n C d_L_1679 rfl hl1 ?_
  refine l_cxL C mv_W_digest ml_L_210 d_L_1680 (t_W_digest C.2.2.1 hx) rfl rfl (by decide) (Nat.le_of_ble_eq_true rfl) ?_
  refine l_aload_n C d_L_1683 rfl hl2 ?_
  refine l_cmL C mv_M_digest ml_L_213 d_L_1684 (t_M_digest C.2.2.2.1 hm) rfl rfl (by decide) (Nat.le_of_ble_eq_true rfl) ?_
  refine l_lcmp C d_L_1687 ?_
  refine l_if0 (tgt := 1693) C d_L_1688 (by decide) (fun _ => ?_) (fun q => absurd (lg_self _) q)
  exact K _ _ hr
def SimAll (Rel : Nat → Mm → Mm → Prop) (N : Nat) : Prop := Rel 0 μX0 μM0 ∧ (∀ k μx μm, k < 512 → Rel k μx μm → Rel (k + 1) μx μm) ∧ Sm_row Rel N ∧ Sm_lay Rel N ∧ Sm_tear Rel N ∧ Sm_copy Rel N ∧ Sm_mean Rel N ∧ Sm_fence Rel N ∧ Sm_net Rel N ∧ Sm_wall Rel N ∧ Sm_breaks Rel N ∧ Sm_far Rel N ∧ Sm_worth Rel N ∧ Sm_base Rel N ∧ Sm_walker Rel N ∧ Sm_home Rel N ∧ Sm_view Rel N ∧ Sm_lose Rel N ∧ Sm_told Rel N ∧ Sm_mark Rel N ∧ Sm_plan Rel N ∧ Sm_unplan Rel N ∧ Sm_planned Rel N ∧ Sm_fit Rel N ∧ Sm_where Rel N ∧ Sm_joint Rel N ∧ Sm_seen Rel N ∧ Sm_idle Rel N ∧ Sm_idleFrom Rel N ∧ Sm_worst Rel N ∧ Sm_share Rel N ∧ Sm_chance Rel N ∧ Sm_thief Rel N ∧ Sm_safe Rel N ∧ Sm_peril Rel N ∧ Sm_meet Rel N ∧ Sm_word Rel N ∧ Sm_spread Rel N ∧ Sm_round Rel N ∧ Sm_roundAt Rel N ∧ Sm_parting Rel N ∧ Sm_partOf Rel N ∧ Sm_fuel Rel N ∧ Sm_asked Rel N ∧ Sm_upper Rel N ∧ Sm_lower Rel N ∧ Sm_count Rel N ∧ Sm_finding Rel N ∧ Sm_findings Rel N ∧ Sm_digest Rel N
theorem l_len {L k : Nat} (hL : L ≤ 3072) (hk : k ≤ 512) (h : ¬ nI L - 6 < nI (6 * k)) : 6 * k + 6 ≤ L := by
  have h1 : (nI L - nI 6).toInt = (L : Int) - 6 := pk_sub_toInt (by omega) (by omega)
  have h2 : (nI (6 * k)).toInt = ((6 * k : Nat) : Int) := nI_toInt (by omega)
  have h3 : ¬ (nI L - nI 6).toInt < (nI (6 * k)).toInt := fun q => h (Int32.lt_iff_toInt_lt.mpr q)
  rw [h1, h2] at h3
  omega
set_option maxHeartbeats 8000000 in
set_option maxRecDepth 100000 in
theorem law_loop {dA : Nat → ClassId} {D : va_G} {aX aM : Nat → Nat} {p : Program} {l : Launch} {e : Env} {s : State} {m : MethodId} {b L : Nat} {xs : Nat → Int32} {below : List Frame} {meth : Method} {c : Code} (C : ClL dA D aX aM p s m meth c b L xs) (hL : L ≤ 3072) {Rel : Nat → Mm → Mm → Prop} {N : Nat} (S : SimAll Rel N) : ∀ (n k : Nat), 513 ≤ k + n → k ≤ 512 → ∀ (μx μm : Mm), Rel k μx μm → ∀ (lv : Nat → Option Value), lv 0 = some (.ref b) → lv 1 = some (.ref (aX 0)) → lv 2 = some (.ref (aM 0)) → lv 3 = some (.int (nI (6 * k))) → GL dA D aX aM p l e s m b below meth c 18 lv [] μx μm := by
  intro n
  induction n with
  | zero => intro k h1 h2; omega
  | succ n ih =>
    intro k hkn hk μx μm hrel lv hl0 hl1 hl2 hl3
    refine l_iload_n C d_L_18 rfl hl3 ?_
    refine l_aload_n C d_L_19 rfl hl0 ?_
    refine l_slen C d_L_20 ?_
    refine l_bipush (v := 6) C d_L_21 (by decide) ?_
    refine l_isub C d_L_23 ?_
    refine l_gt (tgt := 1699) C d_L_24 (by decide) (fun _ => l_end C d_L_1699 d_L_1700) (fun hc => ?_)
    have h6 := l_len hL hk hc
    have hk5 : k < 512 := by omega
    have K : ∀ μ1 μ2, Rel (k + 1) μ1 μ2 → GL dA D aX aM p l e s m b below meth c 1693 lv [] μ1 μ2 := by
      intro μ1 μ2 hr
      refine l_iinc (y := nI (6 * (k + 1))) C d_L_1693 hl3 (nI_add _ 6) (by decide) ?_
      refine l_goto (tgt := 18) C d_L_1696 (by decide) ?_
      exact ih (k + 1) (by omega) (by omega) μ1 μ2 hr _ (upG hl0 rfl) (upG hl1 rfl) (upG hl2 rfl) upS
    refine l_aload_n C d_L_27 rfl hl0 ?_
    refine l_iload_n C d_L_28 rfl hl3 ?_
    refine l_sld C (6 * k) rfl (by omega) hL d_L_29 ?_
    refine l_bipush (v := 63) C d_L_30 (by decide) ?_
    refine l_iand C d_L_32 ?_
    generalize xs (6 * k) &&& 63 = x
    by_cases e0 : x = 0
    · subst e0
      exact l_tabIn (tgt := 240) C d_L_33 (by decide) (by decide) rfl (by decide) (lc_0 C hL (S.2.2.1) hk5 h6 hrel hl0 hl1 hl2 hl3 K)
    by_cases e1 : x = 1
    · subst e1
      exact l_tabIn (tgt := 273) C d_L_33 (by decide) (by decide) rfl (by decide) (lc_1 C hL (S.2.2.2.1) hk5 h6 hrel hl0 hl1 hl2 hl3 K)
    by_cases e2 : x = 2
    · subst e2
      exact l_tabIn (tgt := 316) C d_L_33 (by decide) (by decide) rfl (by decide) (lc_2 C hL (S.2.2.2.2.1) hk5 h6 hrel hl0 hl1 hl2 hl3 K)
    by_cases e3 : x = 3
    · subst e3
      exact l_tabIn (tgt := 339) C d_L_33 (by decide) (by decide) rfl (by decide) (lc_3 C hL (S.2.2.2.2.2.1) hk5 h6 hrel hl0 hl1 hl2 hl3 K)
    by_cases e4 : x = 4
    · subst e4
      exact l_tabIn (tgt := 402) C d_L_33 (by decide) (by decide) rfl (by decide) (lc_4 C hL (S.2.2.2.2.2.2.1) hk5 h6 hrel hl0 hl1 hl2 hl3 K)
    by_cases e5 : x = 5
    · subst e5
      exact l_tabIn (tgt := 425) C d_L_33 (by decide) (by decide) rfl (by decide) (lc_5 C hL (S.2.2.2.2.2.2.2.1) hk5 h6 hrel hl0 hl1 hl2 hl3 K)
    by_cases e6 : x = 6
    · subst e6
      exact l_tabIn (tgt := 474) C d_L_33 (by decide) (by decide) rfl (by decide) (lc_6 C hL (S.2.2.2.2.2.2.2.2.1) hk5 h6 hrel hl0 hl1 hl2 hl3 K)
    by_cases e7 : x = 7
    · subst e7
      exact l_tabIn (tgt := 497) C d_L_33 (by decide) (by decide) rfl (by decide) (lc_7 C hL (S.2.2.2.2.2.2.2.2.2.1) hk5 h6 hrel hl0 hl1 hl2 hl3 K)
    by_cases e8 : x = 8
    · subst e8
      exact l_tabIn (tgt := 540) C d_L_33 (by decide) (by decide) rfl (by decide) (lc_8 C hL (S.2.2.2.2.2.2.2.2.2.2.1) hk5 h6 hrel hl0 hl1 hl2 hl3 K)
    by_cases e9 : x = 9
    · subst e9
      exact l_tabIn (tgt := 599) C d_L_33 (by decide) (by decide) rfl (by decide) (lc_9 C hL (S.2.2.2.2.2.2.2.2.2.2.2.1) hk5 h6 hrel hl0 hl1 hl2 hl3 K)
    by_cases e10 : x = 10
    · subst e10
      exact l_tabIn (tgt := 632) C d_L_33 (by decide) (by decide) rfl (by decide) (lc_10 C hL (S.2.2.2.2.2.2.2.2.2.2.2.2.1) hk5 h6 hrel hl0 hl1 hl2 hl3 K)
    by_cases e11 : x = 11
    · subst e11
      exact l_tabIn (tgt := 665) C d_L_33 (by decide) (by decide) rfl (by decide) (lc_11 C hL (S.2.2.2.2.2.2.2.2.2.2.2.2.2.1) hk5 h6 hrel hl0 hl1 hl2 hl3 K)
    by_cases e12 : x = 12
    · subst e12
      exact l_tabIn (tgt := 714) C d_L_33 (by decide) (by decide) rfl (by decide) (lc_12 C hL (S.2.2.2.2.2.2.2.2.2.2.2.2.2.2.1) hk5 h6 hrel hl0 hl1 hl2 hl3 K)
    by_cases e13 : x = 13
    · subst e13
      exact l_tabIn (tgt := 757) C d_L_33 (by decide) (by decide) rfl (by decide) (lc_13 C hL (S.2.2.2.2.2.2.2.2.2.2.2.2.2.2.2.1) hk5 h6 hrel hl0 hl1 hl2 hl3 K)
    by_cases e14 : x = 14
    · subst e14
      exact l_tabIn (tgt := 780) C d_L_33 (by decide) (by decide) rfl (by decide) (lc_14 C hL (S.2.2.2.2.2.2.2.2.2.2.2.2.2.2.2.2.1) hk5 h6 hrel hl0 hl1 hl2 hl3 K)
    by_cases e15 : x = 15
    · subst e15
      exact l_tabIn (tgt := 813) C d_L_33 (by decide) (by decide) rfl (by decide) (lc_15 C hL (S.2.2.2.2.2.2.2.2.2.2.2.2.2.2.2.2.2.1) hk5 h6 hrel hl0 hl1 hl2 hl3 K)
    by_cases e16 : x = 16
    · subst e16
      exact l_tabIn (tgt := 862) C d_L_33 (by decide) (by decide) rfl (by decide) (lc_16 C hL (S.2.2.2.2.2.2.2.2.2.2.2.2.2.2.2.2.2.2.1) hk5 h6 hrel hl0 hl1 hl2 hl3 K)
    by_cases e17 : x = 17
    · subst e17
      exact l_tabIn (tgt := 895) C d_L_33 (by decide) (by decide) rfl (by decide) (lc_17 C hL (S.2.2.2.2.2.2.2.2.2.2.2.2.2.2.2.2.2.2.2.1) hk5 h6 hrel hl0 hl1 hl2 hl3 K)
    by_cases e18 : x = 18
    · subst e18
      exact l_tabIn (tgt := 928) C d_L_33 (by decide) (by decide) rfl (by decide) (lc_18 C hL (S.2.2.2.2.2.2.2.2.2.2.2.2.2.2.2.2.2.2.2.2.1) hk5 h6 hrel hl0 hl1 hl2 hl3 K)
    by_cases e19 : x = 19
    · subst e19
      exact l_tabIn (tgt := 981) C d_L_33 (by decide) (by decide) rfl (by decide) (lc_19 C hL (S.2.2.2.2.2.2.2.2.2.2.2.2.2.2.2.2.2.2.2.2.2.1) hk5 h6 hrel hl0 hl1 hl2 hl3 K)
    by_cases e20 : x = 20
    · subst e20
      exact l_tabIn (tgt := 1004) C d_L_33 (by decide) (by decide) rfl (by decide) (lc_20 C hL (S.2.2.2.2.2.2.2.2.2.2.2.2.2.2.2.2.2.2.2.2.2.2.1) hk5 h6 hrel hl0 hl1 hl2 hl3 K)
    by_cases e21 : x = 21
    · subst e21
      exact l_tabIn (tgt := 1063) C d_L_33 (by decide) (by decide) rfl (by decide) (lc_21 C hL (S.2.2.2.2.2.2.2.2.2.2.2.2.2.2.2.2.2.2.2.2.2.2.2.1) hk5 h6 hrel hl0 hl1 hl2 hl3 K)
    by_cases e22 : x = 22
    · subst e22
      exact l_tabIn (tgt := 1086) C d_L_33 (by decide) (by decide) rfl (by decide) (lc_22 C hL (S.2.2.2.2.2.2.2.2.2.2.2.2.2.2.2.2.2.2.2.2.2.2.2.2.1) hk5 h6 hrel hl0 hl1 hl2 hl3 K)
    by_cases e23 : x = 23
    · subst e23
      exact l_tabIn (tgt := 1129) C d_L_33 (by decide) (by decide) rfl (by decide) (lc_23 C hL (S.2.2.2.2.2.2.2.2.2.2.2.2.2.2.2.2.2.2.2.2.2.2.2.2.2.1) hk5 h6 hrel hl0 hl1 hl2 hl3 K)
    by_cases e24 : x = 24
    · subst e24
      exact l_tabIn (tgt := 1142) C d_L_33 (by decide) (by decide) rfl (by decide) (lc_24 C hL (S.2.2.2.2.2.2.2.2.2.2.2.2.2.2.2.2.2.2.2.2.2.2.2.2.2.2.1) hk5 h6 hrel hl0 hl1 hl2 hl3 K)
    by_cases e25 : x = 25
    · subst e25
      exact l_tabIn (tgt := 1165) C d_L_33 (by decide) (by decide) rfl (by decide) (lc_25 C hL (S.2.2.2.2.2.2.2.2.2.2.2.2.2.2.2.2.2.2.2.2.2.2.2.2.2.2.2.1) hk5 h6 hrel hl0 hl1 hl2 hl3 K)
    by_cases e26 : x = 26
    · subst e26
      exact l_tabIn (tgt := 1188) C d_L_33 (by decide) (by decide) rfl (by decide) (lc_26 C hL (S.2.2.2.2.2.2.2.2.2.2.2.2.2.2.2.2.2.2.2.2.2.2.2.2.2.2.2.2.1) hk5 h6 hrel hl0 hl1 hl2 hl3 K)
    by_cases e27 : x = 27
    · subst e27
      exact l_tabIn (tgt := 1211) C d_L_33 (by decide) (by decide) rfl (by decide) (lc_27 C hL (S.2.2.2.2.2.2.2.2.2.2.2.2.2.2.2.2.2.2.2.2.2.2.2.2.2.2.2.2.2.1) hk5 h6 hrel hl0 hl1 hl2 hl3 K)
    by_cases e28 : x = 28
    · subst e28
      exact l_tabIn (tgt := 1224) C d_L_33 (by decide) (by decide) rfl (by decide) (lc_28 C hL (S.2.2.2.2.2.2.2.2.2.2.2.2.2.2.2.2.2.2.2.2.2.2.2.2.2.2.2.2.2.2.1) hk5 h6 hrel hl0 hl1 hl2 hl3 K)
    by_cases e29 : x = 29
    · subst e29
      exact l_tabIn (tgt := 1247) C d_L_33 (by decide) (by decide) rfl (by decide) (lc_29 C hL (S.2.2.2.2.2.2.2.2.2.2.2.2.2.2.2.2.2.2.2.2.2.2.2.2.2.2.2.2.2.2.2.1) hk5 h6 hrel hl0 hl1 hl2 hl3 K)
    by_cases e30 : x = 30
    · subst e30
      exact l_tabIn (tgt := 1280) C d_L_33 (by decide) (by decide) rfl (by decide) (lc_30 C hL (S.2.2.2.2.2.2.2.2.2.2.2.2.2.2.2.2.2.2.2.2.2.2.2.2.2.2.2.2.2.2.2.2.1) hk5 h6 hrel hl0 hl1 hl2 hl3 K)
    by_cases e31 : x = 31
    · subst e31
      exact l_tabIn (tgt := 1303) C d_L_33 (by decide) (by decide) rfl (by decide) (lc_31 C hL (S.2.2.2.2.2.2.2.2.2.2.2.2.2.2.2.2.2.2.2.2.2.2.2.2.2.2.2.2.2.2.2.2.2.1) hk5 h6 hrel hl0 hl1 hl2 hl3 K)
    by_cases e32 : x = 32
    · subst e32
      exact l_tabIn (tgt := 1316) C d_L_33 (by decide) (by decide) rfl (by decide) (lc_32 C hL (S.2.2.2.2.2.2.2.2.2.2.2.2.2.2.2.2.2.2.2.2.2.2.2.2.2.2.2.2.2.2.2.2.2.2.1) hk5 h6 hrel hl0 hl1 hl2 hl3 K)
    by_cases e33 : x = 33
    · subst e33
      exact l_tabIn (tgt := 1339) C d_L_33 (by decide) (by decide) rfl (by decide) (lc_33 C hL (S.2.2.2.2.2.2.2.2.2.2.2.2.2.2.2.2.2.2.2.2.2.2.2.2.2.2.2.2.2.2.2.2.2.2.2.1) hk5 h6 hrel hl0 hl1 hl2 hl3 K)
    by_cases e34 : x = 34
    · subst e34
      exact l_tabIn (tgt := 1382) C d_L_33 (by decide) (by decide) rfl (by decide) (lc_34 C hL (S.2.2.2.2.2.2.2.2.2.2.2.2.2.2.2.2.2.2.2.2.2.2.2.2.2.2.2.2.2.2.2.2.2.2.2.2.1) hk5 h6 hrel hl0 hl1 hl2 hl3 K)
    by_cases e35 : x = 35
    · subst e35
      exact l_tabIn (tgt := 1425) C d_L_33 (by decide) (by decide) rfl (by decide) (lc_35 C hL (S.2.2.2.2.2.2.2.2.2.2.2.2.2.2.2.2.2.2.2.2.2.2.2.2.2.2.2.2.2.2.2.2.2.2.2.2.2.1) hk5 h6 hrel hl0 hl1 hl2 hl3 K)
    by_cases e36 : x = 36
    · subst e36
      exact l_tabIn (tgt := 1458) C d_L_33 (by decide) (by decide) rfl (by decide) (lc_36 C hL (S.2.2.2.2.2.2.2.2.2.2.2.2.2.2.2.2.2.2.2.2.2.2.2.2.2.2.2.2.2.2.2.2.2.2.2.2.2.2.1) hk5 h6 hrel hl0 hl1 hl2 hl3 K)
    by_cases e37 : x = 37
    · subst e37
      exact l_tabIn (tgt := 1471) C d_L_33 (by decide) (by decide) rfl (by decide) (lc_37 C hL (S.2.2.2.2.2.2.2.2.2.2.2.2.2.2.2.2.2.2.2.2.2.2.2.2.2.2.2.2.2.2.2.2.2.2.2.2.2.2.2.1) hk5 h6 hrel hl0 hl1 hl2 hl3 K)
    by_cases e38 : x = 38
    · subst e38
      exact l_tabIn (tgt := 1494) C d_L_33 (by decide) (by decide) rfl (by decide) (lc_38 C hL (S.2.2.2.2.2.2.2.2.2.2.2.2.2.2.2.2.2.2.2.2.2.2.2.2.2.2.2.2.2.2.2.2.2.2.2.2.2.2.2.2.1) hk5 h6 hrel hl0 hl1 hl2 hl3 K)
    by_cases e39 : x = 39
    · subst e39
      exact l_tabIn (tgt := 1507) C d_L_33 (by decide) (by decide) rfl (by decide) (lc_39 C hL (S.2.2.2.2.2.2.2.2.2.2.2.2.2.2.2.2.2.2.2.2.2.2.2.2.2.2.2.2.2.2.2.2.2.2.2.2.2.2.2.2.2.1) hk5 h6 hrel hl0 hl1 hl2 hl3 K)
    by_cases e40 : x = 40
    · subst e40
      exact l_tabIn (tgt := 1556) C d_L_33 (by decide) (by decide) rfl (by decide) (lc_40 C hL (S.2.2.2.2.2.2.2.2.2.2.2.2.2.2.2.2.2.2.2.2.2.2.2.2.2.2.2.2.2.2.2.2.2.2.2.2.2.2.2.2.2.2.1) hk5 h6 hrel hl0 hl1 hl2 hl3 K)
    by_cases e41 : x = 41
    · subst e41
      exact l_tabIn (tgt := 1579) C d_L_33 (by decide) (by decide) rfl (by decide) (lc_41 C hL (S.2.2.2.2.2.2.2.2.2.2.2.2.2.2.2.2.2.2.2.2.2.2.2.2.2.2.2.2.2.2.2.2.2.2.2.2.2.2.2.2.2.2.2.1) hk5 h6 hrel hl0 hl1 hl2 hl3 K)
    by_cases e42 : x = 42
    · subst e42
      exact l_tabIn (tgt := 1592) C d_L_33 (by decide) (by decide) rfl (by decide) (lc_42 C hL (S.2.2.2.2.2.2.2.2.2.2.2.2.2.2.2.2.2.2.2.2.2.2.2.2.2.2.2.2.2.2.2.2.2.2.2.2.2.2.2.2.2.2.2.2.1) hk5 h6 hrel hl0 hl1 hl2 hl3 K)
    by_cases e43 : x = 43
    · subst e43
      exact l_tabIn (tgt := 1606) C d_L_33 (by decide) (by decide) rfl (by decide) (lc_43 C hL (S.2.2.2.2.2.2.2.2.2.2.2.2.2.2.2.2.2.2.2.2.2.2.2.2.2.2.2.2.2.2.2.2.2.2.2.2.2.2.2.2.2.2.2.2.2.1) hk5 h6 hrel hl0 hl1 hl2 hl3 K)
    by_cases e44 : x = 44
    · subst e44
      exact l_tabIn (tgt := 1620) C d_L_33 (by decide) (by decide) rfl (by decide) (lc_44 C hL (S.2.2.2.2.2.2.2.2.2.2.2.2.2.2.2.2.2.2.2.2.2.2.2.2.2.2.2.2.2.2.2.2.2.2.2.2.2.2.2.2.2.2.2.2.2.2.1) hk5 h6 hrel hl0 hl1 hl2 hl3 K)
    by_cases e45 : x = 45
    · subst e45
      exact l_tabIn (tgt := 1643) C d_L_33 (by decide) (by decide) rfl (by decide) (lc_45 C hL (S.2.2.2.2.2.2.2.2.2.2.2.2.2.2.2.2.2.2.2.2.2.2.2.2.2.2.2.2.2.2.2.2.2.2.2.2.2.2.2.2.2.2.2.2.2.2.2.1) hk5 h6 hrel hl0 hl1 hl2 hl3 K)
    by_cases e46 : x = 46
    · subst e46
      exact l_tabIn (tgt := 1656) C d_L_33 (by decide) (by decide) rfl (by decide) (lc_46 C hL (S.2.2.2.2.2.2.2.2.2.2.2.2.2.2.2.2.2.2.2.2.2.2.2.2.2.2.2.2.2.2.2.2.2.2.2.2.2.2.2.2.2.2.2.2.2.2.2.2.1) hk5 h6 hrel hl0 hl1 hl2 hl3 K)
    by_cases e47 : x = 47
    · subst e47
      exact l_tabIn (tgt := 1679) C d_L_33 (by decide) (by decide) rfl (by decide) (lc_47 C hL (S.2.2.2.2.2.2.2.2.2.2.2.2.2.2.2.2.2.2.2.2.2.2.2.2.2.2.2.2.2.2.2.2.2.2.2.2.2.2.2.2.2.2.2.2.2.2.2.2.2) hk5 h6 hrel hl0 hl1 hl2 hl3 K)
    have f0 := tni (k := 0) (0 : Int32) rfl e0
    have f1 := tni (k := 1) (1 : Int32) rfl e1
    have f2 := tni (k := 2) (2 : Int32) rfl e2
    have f3 := tni (k := 3) (3 : Int32) rfl e3
    have f4 := tni (k := 4) (4 : Int32) rfl e4
    have f5 := tni (k := 5) (5 : Int32) rfl e5
    have f6 := tni (k := 6) (6 : Int32) rfl e6
    have f7 := tni (k := 7) (7 : Int32) rfl e7
    have f8 := tni (k := 8) (8 : Int32) rfl e8
    have f9 := tni (k := 9) (9 : Int32) rfl e9
    have f10 := tni (k := 10) (10 : Int32) rfl e10
    have f11 := tni (k := 11) (11 : Int32) rfl e11
    have f12 := tni (k := 12) (12 : Int32) rfl e12
    have f13 := tni (k := 13) (13 : Int32) rfl e13
    have f14 := tni (k := 14) (14 : Int32) rfl e14
    have f15 := tni (k := 15) (15 : Int32) rfl e15
    have f16 := tni (k := 16) (16 : Int32) rfl e16
    have f17 := tni (k := 17) (17 : Int32) rfl e17
    have f18 := tni (k := 18) (18 : Int32) rfl e18
    have f19 := tni (k := 19) (19 : Int32) rfl e19
    have f20 := tni (k := 20) (20 : Int32) rfl e20
    have f21 := tni (k := 21) (21 : Int32) rfl e21
    have f22 := tni (k := 22) (22 : Int32) rfl e22
    have f23 := tni (k := 23) (23 : Int32) rfl e23
    have f24 := tni (k := 24) (24 : Int32) rfl e24
    have f25 := tni (k := 25) (25 : Int32) rfl e25
    have f26 := tni (k := 26) (26 : Int32) rfl e26
    have f27 := tni (k := 27) (27 : Int32) rfl e27
    have f28 := tni (k := 28) (28 : Int32) rfl e28
    have f29 := tni (k := 29) (29 : Int32) rfl e29
    have f30 := tni (k := 30) (30 : Int32) rfl e30
    have f31 := tni (k := 31) (31 : Int32) rfl e31
    have f32 := tni (k := 32) (32 : Int32) rfl e32
    have f33 := tni (k := 33) (33 : Int32) rfl e33
    have f34 := tni (k := 34) (34 : Int32) rfl e34
    have f35 := tni (k := 35) (35 : Int32) rfl e35
    have f36 := tni (k := 36) (36 : Int32) rfl e36
    have f37 := tni (k := 37) (37 : Int32) rfl e37
    have f38 := tni (k := 38) (38 : Int32) rfl e38
    have f39 := tni (k := 39) (39 : Int32) rfl e39
    have f40 := tni (k := 40) (40 : Int32) rfl e40
    have f41 := tni (k := 41) (41 : Int32) rfl e41
    have f42 := tni (k := 42) (42 : Int32) rfl e42
    have f43 := tni (k := 43) (43 : Int32) rfl e43
    have f44 := tni (k := 44) (44 : Int32) rfl e44
    have f45 := tni (k := 45) (45 : Int32) rfl e45
    have f46 := tni (k := 46) (46 : Int32) rfl e46
    have f47 := tni (k := 47) (47 : Int32) rfl e47
    exact l_tabOut (tgt := 1693) C d_L_33 (by omega) (by decide) (K μx μm (S.2.1 k μx μm hk5 hrel))
