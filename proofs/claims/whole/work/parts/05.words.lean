/-! the words of the tables that the methods need (by program) -/
theorem TB_pr {w : Cond} (h : w ∈ k2_sels lw_privs) (hg : goodWord w = true) : w ∈ TB := List.mem_filter.mpr ⟨List.mem_append_left _ h, hg⟩
theorem TB_tt {w : Cond} (h : w ∈ tables_1) (hg : goodWord w = true) : w ∈ TB := List.mem_filter.mpr ⟨List.mem_append_right _ h, hg⟩
theorem TB_t1 {w : Cond} (i : Nat) (h : tables_1_1[i]? = some w) (hg : goodWord w = true) : w ∈ TB := TB_tt (List.mem_append_left _ (List.mem_of_getElem? h)) hg
theorem TB_t2 {w : Cond} (i : Nat) (h : tables_1_2[i]? = some w) (hg : goodWord w = true) : w ∈ TB := TB_tt (List.mem_append_right _ (List.mem_append_left _ (List.mem_of_getElem? h))) hg
theorem TB_t3 {w : Cond} (i : Nat) (h : tables_1_3[i]? = some w) (hg : goodWord w = true) : w ∈ TB := TB_tt (List.mem_append_right _ (List.mem_append_right _ (List.mem_append_left _ (List.mem_of_getElem? h)))) hg
theorem TB_t4 {w : Cond} (i : Nat) (h : tables_1_4[i]? = some w) (hg : goodWord w = true) : w ∈ TB := TB_tt (List.mem_append_right _ (List.mem_append_right _ (List.mem_append_right _ (List.mem_append_left _ (List.mem_of_getElem? h))))) hg
theorem TB_t5 {w : Cond} (i : Nat) (h : tables_1_5[i]? = some w) (hg : goodWord w = true) : w ∈ TB := TB_tt (List.mem_append_right _ (List.mem_append_right _ (List.mem_append_right _ (List.mem_append_right _ (List.mem_append_left _ (List.mem_of_getElem? h)))))) hg
theorem TB_t6 {w : Cond} (i : Nat) (h : tables_1_6[i]? = some w) (hg : goodWord w = true) : w ∈ TB := TB_tt (List.mem_append_right _ (List.mem_append_right _ (List.mem_append_right _ (List.mem_append_right _ (List.mem_append_right _ (List.mem_append_left _ (List.mem_of_getElem? h))))))) hg
theorem TB_t7 {w : Cond} (i : Nat) (h : tables_1_7[i]? = some w) (hg : goodWord w = true) : w ∈ TB := TB_tt (List.mem_append_right _ (List.mem_append_right _ (List.mem_append_right _ (List.mem_append_right _ (List.mem_append_right _ (List.mem_append_right _ (List.mem_append_left _ (List.mem_of_getElem? h)))))))) hg
theorem TB_t8 {w : Cond} (i : Nat) (h : tables_1_8[i]? = some w) (hg : goodWord w = true) : w ∈ TB := TB_tt (List.mem_append_right _ (List.mem_append_right _ (List.mem_append_right _ (List.mem_append_right _ (List.mem_append_right _ (List.mem_append_right _ (List.mem_append_right _ (List.mem_of_getElem? h)))))))) hg
set_option maxRecDepth 100000 in
theorem fl_Ta_9 : Cond.fieldLink R_Ta 9 (T_Ta 0).1 (T_Ta 0).2.1 (T_Ta 0).2.2.1 ∈ TB := TB_t1 30 (by decide +kernel) (by decide +kernel)
set_option maxRecDepth 100000 in
theorem fl_W_367 : Cond.fieldLink R_W 367 (T_Ta 0).1 (T_Ta 0).2.1 (T_Ta 0).2.2.1 ∈ TB := TB_t1 31 (by decide +kernel) (by decide +kernel)
set_option maxRecDepth 100000 in
theorem fl_Ta_15 : Cond.fieldLink R_Ta 15 (T_Ta 1).1 (T_Ta 1).2.1 (T_Ta 1).2.2.1 ∈ TB := TB_t1 32 (by decide +kernel) (by decide +kernel)
set_option maxRecDepth 100000 in
theorem fl_W_364 : Cond.fieldLink R_W 364 (T_Ta 1).1 (T_Ta 1).2.1 (T_Ta 1).2.2.1 ∈ TB := TB_t1 33 (by decide +kernel) (by decide +kernel)
set_option maxRecDepth 100000 in
theorem fl_Ta_19 : Cond.fieldLink R_Ta 19 (T_Ta 2).1 (T_Ta 2).2.1 (T_Ta 2).2.2.1 ∈ TB := TB_t1 34 (by decide +kernel) (by decide +kernel)
set_option maxRecDepth 100000 in
theorem fl_W_239 : Cond.fieldLink R_W 239 (T_Ta 2).1 (T_Ta 2).2.1 (T_Ta 2).2.2.1 ∈ TB := TB_t1 35 (by decide +kernel) (by decide +kernel)
set_option maxRecDepth 100000 in
theorem fl_Ta_22 : Cond.fieldLink R_Ta 22 (T_Ta 3).1 (T_Ta 3).2.1 (T_Ta 3).2.2.1 ∈ TB := TB_t1 36 (by decide +kernel) (by decide +kernel)
set_option maxRecDepth 100000 in
theorem fl_W_351 : Cond.fieldLink R_W 351 (T_Ta 3).1 (T_Ta 3).2.1 (T_Ta 3).2.2.1 ∈ TB := TB_t1 37 (by decide +kernel) (by decide +kernel)
set_option maxRecDepth 100000 in
theorem fl_Ta_26 : Cond.fieldLink R_Ta 26 (T_Ta 4).1 (T_Ta 4).2.1 (T_Ta 4).2.2.1 ∈ TB := TB_t1 38 (by decide +kernel) (by decide +kernel)
set_option maxRecDepth 100000 in
theorem fl_W_355 : Cond.fieldLink R_W 355 (T_Ta 4).1 (T_Ta 4).2.1 (T_Ta 4).2.2.1 ∈ TB := TB_t1 39 (by decide +kernel) (by decide +kernel)
set_option maxRecDepth 100000 in
theorem fl_Sf_9 : Cond.fieldLink R_Sf 9 (T_Sf 0).1 (T_Sf 0).2.1 (T_Sf 0).2.2.1 ∈ TB := TB_t1 58 (by decide +kernel) (by decide +kernel)
set_option maxRecDepth 100000 in
theorem fl_Sf_15 : Cond.fieldLink R_Sf 15 (T_Sf 1).1 (T_Sf 1).2.1 (T_Sf 1).2.2.1 ∈ TB := TB_t1 59 (by decide +kernel) (by decide +kernel)
set_option maxRecDepth 100000 in
theorem fl_Gr_9 : Cond.fieldLink R_Gr 9 (T_Gr 0).1 (T_Gr 0).2.1 (T_Gr 0).2.2.1 ∈ TB := TB_t1 72 (by decide +kernel) (by decide +kernel)
set_option maxRecDepth 100000 in
theorem fl_W_134 : Cond.fieldLink R_W 134 (T_Gr 0).1 (T_Gr 0).2.1 (T_Gr 0).2.2.1 ∈ TB := TB_t1 73 (by decide +kernel) (by decide +kernel)
set_option maxRecDepth 100000 in
theorem fl_Gr_15 : Cond.fieldLink R_Gr 15 (T_Gr 1).1 (T_Gr 1).2.1 (T_Gr 1).2.2.1 ∈ TB := TB_t1 74 (by decide +kernel) (by decide +kernel)
set_option maxRecDepth 100000 in
theorem fl_Sh_42 : Cond.fieldLink R_Sh 42 (T_Gr 1).1 (T_Gr 1).2.1 (T_Gr 1).2.2.1 ∈ TB := TB_t1 75 (by decide +kernel) (by decide +kernel)
set_option maxRecDepth 100000 in
theorem fl_To_56 : Cond.fieldLink R_To 56 (T_Gr 1).1 (T_Gr 1).2.1 (T_Gr 1).2.2.1 ∈ TB := TB_t1 76 (by decide +kernel) (by decide +kernel)
set_option maxRecDepth 100000 in
theorem fl_W_118 : Cond.fieldLink R_W 118 (T_Gr 1).1 (T_Gr 1).2.1 (T_Gr 1).2.2.1 ∈ TB := TB_t1 77 (by decide +kernel) (by decide +kernel)
set_option maxRecDepth 100000 in
theorem fl_Gr_18 : Cond.fieldLink R_Gr 18 (T_Gr 2).1 (T_Gr 2).2.1 (T_Gr 2).2.2.1 ∈ TB := TB_t1 78 (by decide +kernel) (by decide +kernel)
set_option maxRecDepth 100000 in
theorem fl_W_131 : Cond.fieldLink R_W 131 (T_Gr 2).1 (T_Gr 2).2.1 (T_Gr 2).2.2.1 ∈ TB := TB_t1 79 (by decide +kernel) (by decide +kernel)
set_option maxRecDepth 100000 in
theorem fl_Gr_21 : Cond.fieldLink R_Gr 21 (T_Gr 3).1 (T_Gr 3).2.1 (T_Gr 3).2.2.1 ∈ TB := TB_t1 80 (by decide +kernel) (by decide +kernel)
set_option maxRecDepth 100000 in
theorem fl_W_358 : Cond.fieldLink R_W 358 (T_Gr 3).1 (T_Gr 3).2.1 (T_Gr 3).2.2.1 ∈ TB := TB_t1 81 (by decide +kernel) (by decide +kernel)
set_option maxRecDepth 100000 in
theorem fl_Gr_24 : Cond.fieldLink R_Gr 24 (T_Gr 4).1 (T_Gr 4).2.1 (T_Gr 4).2.2.1 ∈ TB := TB_t1 82 (by decide +kernel) (by decide +kernel)
set_option maxRecDepth 100000 in
theorem fl_To_35 : Cond.fieldLink R_To 35 (T_Gr 4).1 (T_Gr 4).2.1 (T_Gr 4).2.2.1 ∈ TB := TB_t1 83 (by decide +kernel) (by decide +kernel)
set_option maxRecDepth 100000 in
theorem fl_Cr_55 : Cond.fieldLink R_Cr 55 (T_Gr 4).1 (T_Gr 4).2.1 (T_Gr 4).2.2.1 ∈ TB := TB_t1 84 (by decide +kernel) (by decide +kernel)
set_option maxRecDepth 100000 in
theorem fl_Gr_27 : Cond.fieldLink R_Gr 27 (T_Gr 5).1 (T_Gr 5).2.1 (T_Gr 5).2.2.1 ∈ TB := TB_t1 85 (by decide +kernel) (by decide +kernel)
set_option maxRecDepth 100000 in
theorem fl_Gr_31 : Cond.fieldLink R_Gr 31 (T_Gr 6).1 (T_Gr 6).2.1 (T_Gr 6).2.2.1 ∈ TB := TB_t1 86 (by decide +kernel) (by decide +kernel)
set_option maxRecDepth 100000 in
theorem fl_Gr_34 : Cond.fieldLink R_Gr 34 (T_Gr 7).1 (T_Gr 7).2.1 (T_Gr 7).2.2.1 ∈ TB := TB_t1 87 (by decide +kernel) (by decide +kernel)
set_option maxRecDepth 100000 in
theorem fl_Gr_38 : Cond.fieldLink R_Gr 38 (T_Gr 8).1 (T_Gr 8).2.1 (T_Gr 8).2.2.1 ∈ TB := TB_t1 88 (by decide +kernel) (by decide +kernel)
set_option maxRecDepth 100000 in
theorem fl_Gr_41 : Cond.fieldLink R_Gr 41 (T_Gr 9).1 (T_Gr 9).2.1 (T_Gr 9).2.2.1 ∈ TB := TB_t1 89 (by decide +kernel) (by decide +kernel)
set_option maxRecDepth 100000 in
theorem fl_Wk_9 : Cond.fieldLink R_Wk 9 (T_Wk 0).1 (T_Wk 0).2.1 (T_Wk 0).2.2.1 ∈ TB := TB_t1 125 (by decide +kernel) (by decide +kernel)
set_option maxRecDepth 100000 in
theorem fl_St_41 : Cond.fieldLink R_St 41 (T_Wk 0).1 (T_Wk 0).2.1 (T_Wk 0).2.2.1 ∈ TB := TB_t1 126 (by decide +kernel) (by decide +kernel)
set_option maxRecDepth 100000 in
theorem fl_Wa_100 : Cond.fieldLink R_Wa 100 (T_Wk 0).1 (T_Wk 0).2.1 (T_Wk 0).2.2.1 ∈ TB := TB_t1 127 (by decide +kernel) (by decide +kernel)
set_option maxRecDepth 100000 in
theorem fl_Sh_77 : Cond.fieldLink R_Sh 77 (T_Wk 0).1 (T_Wk 0).2.1 (T_Wk 0).2.2.1 ∈ TB := TB_t1 128 (by decide +kernel) (by decide +kernel)
set_option maxRecDepth 100000 in
theorem fl_Cr_43 : Cond.fieldLink R_Cr 43 (T_Wk 0).1 (T_Wk 0).2.1 (T_Wk 0).2.2.1 ∈ TB := TB_t1 129 (by decide +kernel) (by decide +kernel)
set_option maxRecDepth 100000 in
theorem fl_W_196 : Cond.fieldLink R_W 196 (T_Wk 0).1 (T_Wk 0).2.1 (T_Wk 0).2.2.1 ∈ TB := TB_t1 130 (by decide +kernel) (by decide +kernel)
set_option maxRecDepth 100000 in
theorem fl_Wk_15 : Cond.fieldLink R_Wk 15 (T_Wk 1).1 (T_Wk 1).2.1 (T_Wk 1).2.2.1 ∈ TB := TB_t1 131 (by decide +kernel) (by decide +kernel)
set_option maxRecDepth 100000 in
theorem fl_St_73 : Cond.fieldLink R_St 73 (T_Wk 1).1 (T_Wk 1).2.1 (T_Wk 1).2.2.1 ∈ TB := TB_t1 132 (by decide +kernel) (by decide +kernel)
set_option maxRecDepth 100000 in
theorem fl_Cr_46 : Cond.fieldLink R_Cr 46 (T_Wk 1).1 (T_Wk 1).2.1 (T_Wk 1).2.2.1 ∈ TB := TB_t1 133 (by decide +kernel) (by decide +kernel)
set_option maxRecDepth 100000 in
theorem fl_Wk_18 : Cond.fieldLink R_Wk 18 (T_Wk 2).1 (T_Wk 2).2.1 (T_Wk 2).2.2.1 ∈ TB := TB_t1 134 (by decide +kernel) (by decide +kernel)
set_option maxRecDepth 100000 in
theorem fl_Cr_49 : Cond.fieldLink R_Cr 49 (T_Wk 2).1 (T_Wk 2).2.1 (T_Wk 2).2.2.1 ∈ TB := TB_t1 135 (by decide +kernel) (by decide +kernel)
set_option maxRecDepth 100000 in
theorem fl_Wk_21 : Cond.fieldLink R_Wk 21 (T_Wk 3).1 (T_Wk 3).2.1 (T_Wk 3).2.2.1 ∈ TB := TB_t1 136 (by decide +kernel) (by decide +kernel)
set_option maxRecDepth 100000 in
theorem fl_St_46 : Cond.fieldLink R_St 46 (T_Wk 3).1 (T_Wk 3).2.1 (T_Wk 3).2.2.1 ∈ TB := TB_t1 137 (by decide +kernel) (by decide +kernel)
set_option maxRecDepth 100000 in
theorem fl_Cr_52 : Cond.fieldLink R_Cr 52 (T_Wk 3).1 (T_Wk 3).2.1 (T_Wk 3).2.2.1 ∈ TB := TB_t1 138 (by decide +kernel) (by decide +kernel)
set_option maxRecDepth 100000 in
theorem fl_Wk_24 : Cond.fieldLink R_Wk 24 (T_Wk 4).1 (T_Wk 4).2.1 (T_Wk 4).2.2.1 ∈ TB := TB_t1 139 (by decide +kernel) (by decide +kernel)
set_option maxRecDepth 100000 in
theorem fl_Cr_94 : Cond.fieldLink R_Cr 94 (T_Wk 4).1 (T_Wk 4).2.1 (T_Wk 4).2.2.1 ∈ TB := TB_t1 140 (by decide +kernel) (by decide +kernel)
set_option maxRecDepth 100000 in
theorem fl_W_175 : Cond.fieldLink R_W 175 (T_Wk 4).1 (T_Wk 4).2.1 (T_Wk 4).2.2.1 ∈ TB := TB_t1 141 (by decide +kernel) (by decide +kernel)
set_option maxRecDepth 100000 in
theorem fl_Wk_27 : Cond.fieldLink R_Wk 27 (T_Wk 5).1 (T_Wk 5).2.1 (T_Wk 5).2.2.1 ∈ TB := TB_t1 142 (by decide +kernel) (by decide +kernel)
set_option maxRecDepth 100000 in
theorem fl_Sh_74 : Cond.fieldLink R_Sh 74 (T_Wk 5).1 (T_Wk 5).2.1 (T_Wk 5).2.2.1 ∈ TB := TB_t1 143 (by decide +kernel) (by decide +kernel)
set_option maxRecDepth 100000 in
theorem fl_Cr_97 : Cond.fieldLink R_Cr 97 (T_Wk 5).1 (T_Wk 5).2.1 (T_Wk 5).2.2.1 ∈ TB := TB_t1 144 (by decide +kernel) (by decide +kernel)
set_option maxRecDepth 100000 in
theorem fl_W_178 : Cond.fieldLink R_W 178 (T_Wk 5).1 (T_Wk 5).2.1 (T_Wk 5).2.2.1 ∈ TB := TB_t1 145 (by decide +kernel) (by decide +kernel)
set_option maxRecDepth 100000 in
theorem fl_Wk_31 : Cond.fieldLink R_Wk 31 (T_Wk 6).1 (T_Wk 6).2.1 (T_Wk 6).2.2.1 ∈ TB := TB_t1 146 (by decide +kernel) (by decide +kernel)
set_option maxRecDepth 100000 in
theorem fl_Cr_36 : Cond.fieldLink R_Cr 36 (T_Wk 6).1 (T_Wk 6).2.1 (T_Wk 6).2.2.1 ∈ TB := TB_t1 147 (by decide +kernel) (by decide +kernel)
set_option maxRecDepth 100000 in
theorem fl_Sh_68 : Cond.fieldLink R_Sh 68 (T_Wk 6).1 (T_Wk 6).2.1 (T_Wk 6).2.2.1 ∈ TB := TB_t1 148 (by decide +kernel) (by decide +kernel)
set_option maxRecDepth 100000 in
theorem fl_W_169 : Cond.fieldLink R_W 169 (T_Wk 6).1 (T_Wk 6).2.1 (T_Wk 6).2.2.1 ∈ TB := TB_t1 149 (by decide +kernel) (by decide +kernel)
set_option maxRecDepth 100000 in
theorem fl_Wk_34 : Cond.fieldLink R_Wk 34 (T_Wk 7).1 (T_Wk 7).2.1 (T_Wk 7).2.2.1 ∈ TB := TB_t1 150 (by decide +kernel) (by decide +kernel)
set_option maxRecDepth 100000 in
theorem fl_St_53 : Cond.fieldLink R_St 53 (T_Wk 7).1 (T_Wk 7).2.1 (T_Wk 7).2.2.1 ∈ TB := TB_t1 151 (by decide +kernel) (by decide +kernel)
set_option maxRecDepth 100000 in
theorem fl_W_384 : Cond.fieldLink R_W 384 (T_Wk 7).1 (T_Wk 7).2.1 (T_Wk 7).2.2.1 ∈ TB := TB_t1 152 (by decide +kernel) (by decide +kernel)
set_option maxRecDepth 100000 in
theorem fl_Wk_37 : Cond.fieldLink R_Wk 37 (T_Wk 8).1 (T_Wk 8).2.1 (T_Wk 8).2.2.1 ∈ TB := TB_t1 153 (by decide +kernel) (by decide +kernel)
set_option maxRecDepth 100000 in
theorem fl_Cr_100 : Cond.fieldLink R_Cr 100 (T_Wk 8).1 (T_Wk 8).2.1 (T_Wk 8).2.2.1 ∈ TB := TB_t1 154 (by decide +kernel) (by decide +kernel)
set_option maxRecDepth 100000 in
theorem fl_W_204 : Cond.fieldLink R_W 204 (T_Wk 8).1 (T_Wk 8).2.1 (T_Wk 8).2.2.1 ∈ TB := TB_t1 155 (by decide +kernel) (by decide +kernel)
set_option maxRecDepth 100000 in
theorem fl_Wk_40 : Cond.fieldLink R_Wk 40 (T_Wk 9).1 (T_Wk 9).2.1 (T_Wk 9).2.2.1 ∈ TB := TB_t1 156 (by decide +kernel) (by decide +kernel)
set_option maxRecDepth 100000 in
theorem fl_St_81 : Cond.fieldLink R_St 81 (T_Wk 9).1 (T_Wk 9).2.1 (T_Wk 9).2.2.1 ∈ TB := TB_t1 157 (by decide +kernel) (by decide +kernel)
set_option maxRecDepth 100000 in
theorem fl_W_211 : Cond.fieldLink R_W 211 (T_Wk 9).1 (T_Wk 9).2.1 (T_Wk 9).2.2.1 ∈ TB := TB_t1 158 (by decide +kernel) (by decide +kernel)
set_option maxRecDepth 100000 in
theorem fl_Wk_44 : Cond.fieldLink R_Wk 44 (T_Wk 10).1 (T_Wk 10).2.1 (T_Wk 10).2.2.1 ∈ TB := TB_t1 159 (by decide +kernel) (by decide +kernel)
set_option maxRecDepth 100000 in
theorem fl_Wa_137 : Cond.fieldLink R_Wa 137 (T_Wk 10).1 (T_Wk 10).2.1 (T_Wk 10).2.2.1 ∈ TB := TB_t1 160 (by decide +kernel) (by decide +kernel)
set_option maxRecDepth 100000 in
theorem fl_W_207 : Cond.fieldLink R_W 207 (T_Wk 10).1 (T_Wk 10).2.1 (T_Wk 10).2.2.1 ∈ TB := TB_t1 161 (by decide +kernel) (by decide +kernel)
set_option maxRecDepth 100000 in
theorem fl_Wk_47 : Cond.fieldLink R_Wk 47 (T_Wk 11).1 (T_Wk 11).2.1 (T_Wk 11).2.2.1 ∈ TB := TB_t1 162 (by decide +kernel) (by decide +kernel)
set_option maxRecDepth 100000 in
theorem fl_Cr_67 : Cond.fieldLink R_Cr 67 (T_Wk 11).1 (T_Wk 11).2.1 (T_Wk 11).2.2.1 ∈ TB := TB_t1 163 (by decide +kernel) (by decide +kernel)
set_option maxRecDepth 100000 in
theorem fl_Wk_50 : Cond.fieldLink R_Wk 50 (T_Wk 12).1 (T_Wk 12).2.1 (T_Wk 12).2.2.1 ∈ TB := TB_t1 164 (by decide +kernel) (by decide +kernel)
set_option maxRecDepth 100000 in
theorem fl_St_60 : Cond.fieldLink R_St 60 (T_Wk 12).1 (T_Wk 12).2.1 (T_Wk 12).2.2.1 ∈ TB := TB_t1 165 (by decide +kernel) (by decide +kernel)
set_option maxRecDepth 100000 in
theorem fl_Cr_69 : Cond.fieldLink R_Cr 69 (T_Wk 12).1 (T_Wk 12).2.1 (T_Wk 12).2.2.1 ∈ TB := TB_t1 166 (by decide +kernel) (by decide +kernel)
set_option maxRecDepth 100000 in
theorem fl_Wk_53 : Cond.fieldLink R_Wk 53 (T_Wk 13).1 (T_Wk 13).2.1 (T_Wk 13).2.2.1 ∈ TB := TB_t1 167 (by decide +kernel) (by decide +kernel)
set_option maxRecDepth 100000 in
theorem fl_Wa_105 : Cond.fieldLink R_Wa 105 (T_Wk 13).1 (T_Wk 13).2.1 (T_Wk 13).2.2.1 ∈ TB := TB_t1 168 (by decide +kernel) (by decide +kernel)
set_option maxRecDepth 100000 in
theorem fl_Cr_80 : Cond.fieldLink R_Cr 80 (T_Wk 13).1 (T_Wk 13).2.1 (T_Wk 13).2.2.1 ∈ TB := TB_t1 169 (by decide +kernel) (by decide +kernel)
set_option maxRecDepth 100000 in
theorem fl_Wk_56 : Cond.fieldLink R_Wk 56 (T_Wk 14).1 (T_Wk 14).2.1 (T_Wk 14).2.2.1 ∈ TB := TB_t1 170 (by decide +kernel) (by decide +kernel)
set_option maxRecDepth 100000 in
theorem fl_St_88 : Cond.fieldLink R_St 88 (T_Wk 14).1 (T_Wk 14).2.1 (T_Wk 14).2.2.1 ∈ TB := TB_t1 171 (by decide +kernel) (by decide +kernel)
set_option maxRecDepth 100000 in
theorem fl_Wa_117 : Cond.fieldLink R_Wa 117 (T_Wk 14).1 (T_Wk 14).2.1 (T_Wk 14).2.2.1 ∈ TB := TB_t1 172 (by decide +kernel) (by decide +kernel)
set_option maxRecDepth 100000 in
theorem fl_Wk_59 : Cond.fieldLink R_Wk 59 (T_Wk 15).1 (T_Wk 15).2.1 (T_Wk 15).2.2.1 ∈ TB := TB_t1 173 (by decide +kernel) (by decide +kernel)
set_option maxRecDepth 100000 in
theorem fl_St_90 : Cond.fieldLink R_St 90 (T_Wk 15).1 (T_Wk 15).2.1 (T_Wk 15).2.2.1 ∈ TB := TB_t1 174 (by decide +kernel) (by decide +kernel)
set_option maxRecDepth 100000 in
theorem fl_Wa_123 : Cond.fieldLink R_Wa 123 (T_Wk 15).1 (T_Wk 15).2.1 (T_Wk 15).2.2.1 ∈ TB := TB_t1 175 (by decide +kernel) (by decide +kernel)
set_option maxRecDepth 100000 in
theorem fl_Wk_62 : Cond.fieldLink R_Wk 62 (T_Wk 16).1 (T_Wk 16).2.1 (T_Wk 16).2.2.1 ∈ TB := TB_t1 176 (by decide +kernel) (by decide +kernel)
set_option maxRecDepth 100000 in
theorem fl_Wa_126 : Cond.fieldLink R_Wa 126 (T_Wk 16).1 (T_Wk 16).2.1 (T_Wk 16).2.2.1 ∈ TB := TB_t1 177 (by decide +kernel) (by decide +kernel)
set_option maxRecDepth 100000 in
theorem fl_Cr_31 : Cond.fieldLink R_Cr 31 (T_Cr 0).1 (T_Cr 0).2.1 (T_Cr 0).2.2.1 ∈ TB := TB_t1 213 (by decide +kernel) (by decide +kernel)
set_option maxRecDepth 100000 in
theorem fl_Wa_153 : Cond.fieldLink R_Wa 153 (T_Cr 0).1 (T_Cr 0).2.1 (T_Cr 0).2.2.1 ∈ TB := TB_t1 214 (by decide +kernel) (by decide +kernel)
set_option maxRecDepth 100000 in
theorem fl_Cr_9 : Cond.fieldLink R_Cr 9 (T_Cr 1).1 (T_Cr 1).2.1 (T_Cr 1).2.2.1 ∈ TB := TB_t1 215 (by decide +kernel) (by decide +kernel)
set_option maxRecDepth 100000 in
theorem fl_Wa_93 : Cond.fieldLink R_Wa 93 (T_Cr 1).1 (T_Cr 1).2.1 (T_Cr 1).2.2.1 ∈ TB := TB_t1 216 (by decide +kernel) (by decide +kernel)
set_option maxRecDepth 100000 in
theorem fl_Sh_59 : Cond.fieldLink R_Sh 59 (T_Cr 1).1 (T_Cr 1).2.1 (T_Cr 1).2.2.1 ∈ TB := TB_t1 217 (by decide +kernel) (by decide +kernel)
set_option maxRecDepth 100000 in
theorem fl_W_156 : Cond.fieldLink R_W 156 (T_Cr 1).1 (T_Cr 1).2.1 (T_Cr 1).2.2.1 ∈ TB := TB_t1 218 (by decide +kernel) (by decide +kernel)
set_option maxRecDepth 100000 in
theorem fl_Cr_15 : Cond.fieldLink R_Cr 15 (T_Cr 2).1 (T_Cr 2).2.1 (T_Cr 2).2.2.1 ∈ TB := TB_t1 219 (by decide +kernel) (by decide +kernel)
set_option maxRecDepth 100000 in
theorem fl_Me_93 : Cond.fieldLink R_Me 93 (T_Cr 2).1 (T_Cr 2).2.1 (T_Cr 2).2.2.1 ∈ TB := TB_t1 220 (by decide +kernel) (by decide +kernel)
set_option maxRecDepth 100000 in
theorem fl_W_226 : Cond.fieldLink R_W 226 (T_Cr 2).1 (T_Cr 2).2.1 (T_Cr 2).2.2.1 ∈ TB := TB_t1 221 (by decide +kernel) (by decide +kernel)
set_option maxRecDepth 100000 in
theorem fl_Cr_20 : Cond.fieldLink R_Cr 20 (T_Cr 3).1 (T_Cr 3).2.1 (T_Cr 3).2.2.1 ∈ TB := TB_t1 222 (by decide +kernel) (by decide +kernel)
set_option maxRecDepth 100000 in
theorem fl_Cr_24 : Cond.fieldLink R_Cr 24 (T_Cr 4).1 (T_Cr 4).2.1 (T_Cr 4).2.2.1 ∈ TB := TB_t1 223 (by decide +kernel) (by decide +kernel)
set_option maxRecDepth 100000 in
theorem fl_Cr_28 : Cond.fieldLink R_Cr 28 (T_Cr 5).1 (T_Cr 5).2.1 (T_Cr 5).2.2.1 ∈ TB := TB_t1 224 (by decide +kernel) (by decide +kernel)
set_option maxRecDepth 100000 in
theorem fl_Wa_9 : Cond.fieldLink R_Wa 9 (T_Wa 0).1 (T_Wa 0).2.1 (T_Wa 0).2.2.1 ∈ TB := TB_t2 4 (by decide +kernel) (by decide +kernel)
set_option maxRecDepth 100000 in
theorem fl_W_268 : Cond.fieldLink R_W 268 (T_Wa 0).1 (T_Wa 0).2.1 (T_Wa 0).2.2.1 ∈ TB := TB_t2 5 (by decide +kernel) (by decide +kernel)
set_option maxRecDepth 100000 in
theorem fl_Wa_58 : Cond.fieldLink R_Wa 58 (T_Wa 1).1 (T_Wa 1).2.1 (T_Wa 1).2.2.1 ∈ TB := TB_t2 6 (by decide +kernel) (by decide +kernel)
set_option maxRecDepth 100000 in
theorem fl_Wa_15 : Cond.fieldLink R_Wa 15 (T_Wa 2).1 (T_Wa 2).2.1 (T_Wa 2).2.2.1 ∈ TB := TB_t2 7 (by decide +kernel) (by decide +kernel)
set_option maxRecDepth 100000 in
theorem fl_Wa_19 : Cond.fieldLink R_Wa 19 (T_Wa 3).1 (T_Wa 3).2.1 (T_Wa 3).2.2.1 ∈ TB := TB_t2 8 (by decide +kernel) (by decide +kernel)
set_option maxRecDepth 100000 in
theorem fl_Wa_22 : Cond.fieldLink R_Wa 22 (T_Wa 4).1 (T_Wa 4).2.1 (T_Wa 4).2.2.1 ∈ TB := TB_t2 9 (by decide +kernel) (by decide +kernel)
set_option maxRecDepth 100000 in
theorem fl_Wa_25 : Cond.fieldLink R_Wa 25 (T_Wa 5).1 (T_Wa 5).2.1 (T_Wa 5).2.2.1 ∈ TB := TB_t2 10 (by decide +kernel) (by decide +kernel)
set_option maxRecDepth 100000 in
theorem fl_Wa_28 : Cond.fieldLink R_Wa 28 (T_Wa 6).1 (T_Wa 6).2.1 (T_Wa 6).2.2.1 ∈ TB := TB_t2 11 (by decide +kernel) (by decide +kernel)
set_option maxRecDepth 100000 in
theorem fl_Wa_31 : Cond.fieldLink R_Wa 31 (T_Wa 7).1 (T_Wa 7).2.1 (T_Wa 7).2.2.1 ∈ TB := TB_t2 12 (by decide +kernel) (by decide +kernel)
set_option maxRecDepth 100000 in
theorem fl_Wa_34 : Cond.fieldLink R_Wa 34 (T_Wa 8).1 (T_Wa 8).2.1 (T_Wa 8).2.2.1 ∈ TB := TB_t2 13 (by decide +kernel) (by decide +kernel)
set_option maxRecDepth 100000 in
theorem fl_Wa_37 : Cond.fieldLink R_Wa 37 (T_Wa 9).1 (T_Wa 9).2.1 (T_Wa 9).2.2.1 ∈ TB := TB_t2 14 (by decide +kernel) (by decide +kernel)
set_option maxRecDepth 100000 in
theorem fl_Wa_40 : Cond.fieldLink R_Wa 40 (T_Wa 10).1 (T_Wa 10).2.1 (T_Wa 10).2.2.1 ∈ TB := TB_t2 15 (by decide +kernel) (by decide +kernel)
set_option maxRecDepth 100000 in
theorem fl_Wa_43 : Cond.fieldLink R_Wa 43 (T_Wa 11).1 (T_Wa 11).2.1 (T_Wa 11).2.2.1 ∈ TB := TB_t2 16 (by decide +kernel) (by decide +kernel)
set_option maxRecDepth 100000 in
theorem fl_Wa_46 : Cond.fieldLink R_Wa 46 (T_Wa 12).1 (T_Wa 12).2.1 (T_Wa 12).2.2.1 ∈ TB := TB_t2 17 (by decide +kernel) (by decide +kernel)
set_option maxRecDepth 100000 in
theorem fl_Wa_49 : Cond.fieldLink R_Wa 49 (T_Wa 13).1 (T_Wa 13).2.1 (T_Wa 13).2.2.1 ∈ TB := TB_t2 18 (by decide +kernel) (by decide +kernel)
set_option maxRecDepth 100000 in
theorem fl_Wa_52 : Cond.fieldLink R_Wa 52 (T_Wa 14).1 (T_Wa 14).2.1 (T_Wa 14).2.2.1 ∈ TB := TB_t2 19 (by decide +kernel) (by decide +kernel)
set_option maxRecDepth 100000 in
theorem fl_Wa_55 : Cond.fieldLink R_Wa 55 (T_Wa 15).1 (T_Wa 15).2.1 (T_Wa 15).2.2.1 ∈ TB := TB_t2 20 (by decide +kernel) (by decide +kernel)
set_option maxRecDepth 100000 in
theorem fl_St_37 : Cond.fieldLink R_St 37 (T_St 0).1 (T_St 0).2.1 (T_St 0).2.2.1 ∈ TB := TB_t2 70 (by decide +kernel) (by decide +kernel)
set_option maxRecDepth 100000 in
theorem fl_St_9 : Cond.fieldLink R_St 9 (T_St 1).1 (T_St 1).2.1 (T_St 1).2.2.1 ∈ TB := TB_t2 71 (by decide +kernel) (by decide +kernel)
set_option maxRecDepth 100000 in
theorem fl_St_15 : Cond.fieldLink R_St 15 (T_St 2).1 (T_St 2).2.1 (T_St 2).2.2.1 ∈ TB := TB_t2 72 (by decide +kernel) (by decide +kernel)
set_option maxRecDepth 100000 in
theorem fl_St_19 : Cond.fieldLink R_St 19 (T_St 3).1 (T_St 3).2.1 (T_St 3).2.2.1 ∈ TB := TB_t2 73 (by decide +kernel) (by decide +kernel)
set_option maxRecDepth 100000 in
theorem fl_Me_74 : Cond.fieldLink R_Me 74 (T_St 3).1 (T_St 3).2.1 (T_St 3).2.2.1 ∈ TB := TB_t2 74 (by decide +kernel) (by decide +kernel)
set_option maxRecDepth 100000 in
theorem fl_St_22 : Cond.fieldLink R_St 22 (T_St 4).1 (T_St 4).2.1 (T_St 4).2.2.1 ∈ TB := TB_t2 75 (by decide +kernel) (by decide +kernel)
set_option maxRecDepth 100000 in
theorem fl_Me_81 : Cond.fieldLink R_Me 81 (T_St 4).1 (T_St 4).2.1 (T_St 4).2.2.1 ∈ TB := TB_t2 76 (by decide +kernel) (by decide +kernel)
set_option maxRecDepth 100000 in
theorem fl_St_25 : Cond.fieldLink R_St 25 (T_St 5).1 (T_St 5).2.1 (T_St 5).2.2.1 ∈ TB := TB_t2 77 (by decide +kernel) (by decide +kernel)
set_option maxRecDepth 100000 in
theorem fl_Me_90 : Cond.fieldLink R_Me 90 (T_St 5).1 (T_St 5).2.1 (T_St 5).2.2.1 ∈ TB := TB_t2 78 (by decide +kernel) (by decide +kernel)
set_option maxRecDepth 100000 in
theorem fl_St_28 : Cond.fieldLink R_St 28 (T_St 6).1 (T_St 6).2.1 (T_St 6).2.2.1 ∈ TB := TB_t2 79 (by decide +kernel) (by decide +kernel)
set_option maxRecDepth 100000 in
theorem fl_Me_47 : Cond.fieldLink R_Me 47 (T_St 6).1 (T_St 6).2.1 (T_St 6).2.2.1 ∈ TB := TB_t2 80 (by decide +kernel) (by decide +kernel)
set_option maxRecDepth 100000 in
theorem fl_St_31 : Cond.fieldLink R_St 31 (T_St 7).1 (T_St 7).2.1 (T_St 7).2.2.1 ∈ TB := TB_t2 81 (by decide +kernel) (by decide +kernel)
set_option maxRecDepth 100000 in
theorem fl_Me_78 : Cond.fieldLink R_Me 78 (T_St 7).1 (T_St 7).2.1 (T_St 7).2.2.1 ∈ TB := TB_t2 82 (by decide +kernel) (by decide +kernel)
set_option maxRecDepth 100000 in
theorem fl_St_34 : Cond.fieldLink R_St 34 (T_St 8).1 (T_St 8).2.1 (T_St 8).2.2.1 ∈ TB := TB_t2 83 (by decide +kernel) (by decide +kernel)
set_option maxRecDepth 100000 in
theorem fl_Me_63 : Cond.fieldLink R_Me 63 (T_St 8).1 (T_St 8).2.1 (T_St 8).2.2.1 ∈ TB := TB_t2 84 (by decide +kernel) (by decide +kernel)
set_option maxRecDepth 100000 in
theorem fl_Me_15 : Cond.fieldLink R_Me 15 (T_Me 0).1 (T_Me 0).2.1 (T_Me 0).2.2.1 ∈ TB := TB_t2 105 (by decide +kernel) (by decide +kernel)
set_option maxRecDepth 100000 in
theorem fl_Me_30 : Cond.fieldLink R_Me 30 (T_Me 1).1 (T_Me 1).2.1 (T_Me 1).2.2.1 ∈ TB := TB_t2 106 (by decide +kernel) (by decide +kernel)
set_option maxRecDepth 100000 in
theorem fl_Me_34 : Cond.fieldLink R_Me 34 (T_Me 2).1 (T_Me 2).2.1 (T_Me 2).2.2.1 ∈ TB := TB_t2 107 (by decide +kernel) (by decide +kernel)
set_option maxRecDepth 100000 in
theorem fl_Me_9 : Cond.fieldLink R_Me 9 (T_Me 3).1 (T_Me 3).2.1 (T_Me 3).2.2.1 ∈ TB := TB_t2 108 (by decide +kernel) (by decide +kernel)
set_option maxRecDepth 100000 in
theorem fl_To_9 : Cond.fieldLink R_To 9 (T_To 0).1 (T_To 0).2.1 (T_To 0).2.2.1 ∈ TB := TB_t2 124 (by decide +kernel) (by decide +kernel)
set_option maxRecDepth 100000 in
theorem fl_W_333 : Cond.fieldLink R_W 333 (T_To 0).1 (T_To 0).2.1 (T_To 0).2.2.1 ∈ TB := TB_t2 125 (by decide +kernel) (by decide +kernel)
set_option maxRecDepth 100000 in
theorem fl_To_31 : Cond.fieldLink R_To 31 (T_To 1).1 (T_To 1).2.1 (T_To 1).2.2.1 ∈ TB := TB_t2 126 (by decide +kernel) (by decide +kernel)
set_option maxRecDepth 100000 in
theorem fl_To_15 : Cond.fieldLink R_To 15 (T_To 2).1 (T_To 2).2.1 (T_To 2).2.2.1 ∈ TB := TB_t2 127 (by decide +kernel) (by decide +kernel)
set_option maxRecDepth 100000 in
theorem fl_To_19 : Cond.fieldLink R_To 19 (T_To 3).1 (T_To 3).2.1 (T_To 3).2.2.1 ∈ TB := TB_t2 128 (by decide +kernel) (by decide +kernel)
set_option maxRecDepth 100000 in
theorem fl_To_22 : Cond.fieldLink R_To 22 (T_To 4).1 (T_To 4).2.1 (T_To 4).2.2.1 ∈ TB := TB_t2 129 (by decide +kernel) (by decide +kernel)
set_option maxRecDepth 100000 in
theorem fl_To_25 : Cond.fieldLink R_To 25 (T_To 5).1 (T_To 5).2.1 (T_To 5).2.2.1 ∈ TB := TB_t2 130 (by decide +kernel) (by decide +kernel)
set_option maxRecDepth 100000 in
theorem fl_To_28 : Cond.fieldLink R_To 28 (T_To 6).1 (T_To 6).2.1 (T_To 6).2.2.1 ∈ TB := TB_t2 131 (by decide +kernel) (by decide +kernel)
set_option maxRecDepth 100000 in
theorem fl_Sh_9 : Cond.fieldLink R_Sh 9 (T_Sh 0).1 (T_Sh 0).2.1 (T_Sh 0).2.2.1 ∈ TB := TB_t2 157 (by decide +kernel) (by decide +kernel)
set_option maxRecDepth 100000 in
theorem fl_W_345 : Cond.fieldLink R_W 345 (T_Sh 0).1 (T_Sh 0).2.1 (T_Sh 0).2.2.1 ∈ TB := TB_t2 158 (by decide +kernel) (by decide +kernel)
set_option maxRecDepth 100000 in
theorem fl_Sh_15 : Cond.fieldLink R_Sh 15 (T_Sh 1).1 (T_Sh 1).2.1 (T_Sh 1).2.2.1 ∈ TB := TB_t2 159 (by decide +kernel) (by decide +kernel)
set_option maxRecDepth 100000 in
theorem fl_W_342 : Cond.fieldLink R_W 342 (T_Sh 1).1 (T_Sh 1).2.1 (T_Sh 1).2.2.1 ∈ TB := TB_t2 160 (by decide +kernel) (by decide +kernel)
set_option maxRecDepth 100000 in
theorem fl_Sh_28 : Cond.fieldLink R_Sh 28 (T_Sh 2).1 (T_Sh 2).2.1 (T_Sh 2).2.2.1 ∈ TB := TB_t2 161 (by decide +kernel) (by decide +kernel)
set_option maxRecDepth 100000 in
theorem fl_Sh_32 : Cond.fieldLink R_Sh 32 (T_Sh 3).1 (T_Sh 3).2.1 (T_Sh 3).2.2.1 ∈ TB := TB_t2 162 (by decide +kernel) (by decide +kernel)
set_option maxRecDepth 100000 in
theorem fl_Sh_18 : Cond.fieldLink R_Sh 18 (T_Sh 4).1 (T_Sh 4).2.1 (T_Sh 4).2.2.1 ∈ TB := TB_t2 163 (by decide +kernel) (by decide +kernel)
set_option maxRecDepth 100000 in
theorem fl_Sh_21 : Cond.fieldLink R_Sh 21 (T_Sh 5).1 (T_Sh 5).2.1 (T_Sh 5).2.2.1 ∈ TB := TB_t2 164 (by decide +kernel) (by decide +kernel)
set_option maxRecDepth 100000 in
theorem fl_Sh_24 : Cond.fieldLink R_Sh 24 (T_Sh 6).1 (T_Sh 6).2.1 (T_Sh 6).2.2.1 ∈ TB := TB_t2 165 (by decide +kernel) (by decide +kernel)
set_option maxRecDepth 100000 in
theorem fl_W_10 : Cond.fieldLink R_W 10 (T_W 0).1 (T_W 0).2.1 (T_W 0).2.2.1 ∈ TB := TB_t2 181 (by decide +kernel) (by decide +kernel)
set_option maxRecDepth 100000 in
theorem fl_W_19 : Cond.fieldLink R_W 19 (T_W 1).1 (T_W 1).2.1 (T_W 1).2.2.1 ∈ TB := TB_t2 182 (by decide +kernel) (by decide +kernel)
set_option maxRecDepth 100000 in
theorem fl_W_26 : Cond.fieldLink R_W 26 (T_W 2).1 (T_W 2).2.1 (T_W 2).2.2.1 ∈ TB := TB_t2 183 (by decide +kernel) (by decide +kernel)
set_option maxRecDepth 100000 in
theorem fl_W_35 : Cond.fieldLink R_W 35 (T_W 3).1 (T_W 3).2.1 (T_W 3).2.2.1 ∈ TB := TB_t2 184 (by decide +kernel) (by decide +kernel)
set_option maxRecDepth 100000 in
theorem fl_W_44 : Cond.fieldLink R_W 44 (T_W 4).1 (T_W 4).2.1 (T_W 4).2.2.1 ∈ TB := TB_t2 185 (by decide +kernel) (by decide +kernel)
set_option maxRecDepth 100000 in
theorem fl_W_51 : Cond.fieldLink R_W 51 (T_W 5).1 (T_W 5).2.1 (T_W 5).2.2.1 ∈ TB := TB_t2 186 (by decide +kernel) (by decide +kernel)
set_option maxRecDepth 100000 in
theorem fl_W_58 : Cond.fieldLink R_W 58 (T_W 6).1 (T_W 6).2.1 (T_W 6).2.2.1 ∈ TB := TB_t2 187 (by decide +kernel) (by decide +kernel)
set_option maxRecDepth 100000 in
theorem fl_W_67 : Cond.fieldLink R_W 67 (T_W 7).1 (T_W 7).2.1 (T_W 7).2.2.1 ∈ TB := TB_t2 188 (by decide +kernel) (by decide +kernel)
set_option maxRecDepth 100000 in
theorem fl_M_114 : Cond.fieldLink R_M 114 (T_M 0).1 (T_M 0).2.1 (T_M 0).2.2.1 ∈ TB := TB_t6 27 (by decide +kernel) (by decide +kernel)
set_option maxRecDepth 100000 in
theorem fl_M_7 : Cond.fieldLink R_M 7 (T_M 1).1 (T_M 1).2.1 (T_M 1).2.2.1 ∈ TB := TB_t6 28 (by decide +kernel) (by decide +kernel)
set_option maxRecDepth 100000 in
theorem fl_M_121 : Cond.fieldLink R_M 121 (T_M 2).1 (T_M 2).2.1 (T_M 2).2.2.1 ∈ TB := TB_t6 29 (by decide +kernel) (by decide +kernel)
set_option maxRecDepth 100000 in
theorem fl_M_128 : Cond.fieldLink R_M 128 (T_M 3).1 (T_M 3).2.1 (T_M 3).2.2.1 ∈ TB := TB_t6 30 (by decide +kernel) (by decide +kernel)
set_option maxRecDepth 100000 in
theorem fl_M_103 : Cond.fieldLink R_M 103 (T_M 4).1 (T_M 4).2.1 (T_M 4).2.2.1 ∈ TB := TB_t6 31 (by decide +kernel) (by decide +kernel)
set_option maxRecDepth 100000 in
theorem fl_M_13 : Cond.fieldLink R_M 13 (T_M 5).1 (T_M 5).2.1 (T_M 5).2.2.1 ∈ TB := TB_t6 32 (by decide +kernel) (by decide +kernel)
set_option maxRecDepth 100000 in
theorem fl_M_16 : Cond.fieldLink R_M 16 (T_M 6).1 (T_M 6).2.1 (T_M 6).2.2.1 ∈ TB := TB_t6 33 (by decide +kernel) (by decide +kernel)
set_option maxRecDepth 100000 in
theorem fl_M_20 : Cond.fieldLink R_M 20 (T_M 7).1 (T_M 7).2.1 (T_M 7).2.2.1 ∈ TB := TB_t6 34 (by decide +kernel) (by decide +kernel)
set_option maxRecDepth 100000 in
theorem fl_M_107 : Cond.fieldLink R_M 107 (T_M 8).1 (T_M 8).2.1 (T_M 8).2.2.1 ∈ TB := TB_t6 35 (by decide +kernel) (by decide +kernel)
set_option maxRecDepth 100000 in
theorem fl_M_111 : Cond.fieldLink R_M 111 (T_M 9).1 (T_M 9).2.1 (T_M 9).2.2.1 ∈ TB := TB_t6 36 (by decide +kernel) (by decide +kernel)
set_option maxRecDepth 100000 in
theorem fl_M_23 : Cond.fieldLink R_M 23 (T_M 10).1 (T_M 10).2.1 (T_M 10).2.2.1 ∈ TB := TB_t6 37 (by decide +kernel) (by decide +kernel)
set_option maxRecDepth 100000 in
theorem fl_M_26 : Cond.fieldLink R_M 26 (T_M 11).1 (T_M 11).2.1 (T_M 11).2.2.1 ∈ TB := TB_t6 38 (by decide +kernel) (by decide +kernel)
set_option maxRecDepth 100000 in
theorem fl_M_30 : Cond.fieldLink R_M 30 (T_M 12).1 (T_M 12).2.1 (T_M 12).2.2.1 ∈ TB := TB_t6 39 (by decide +kernel) (by decide +kernel)
set_option maxRecDepth 100000 in
theorem fl_M_33 : Cond.fieldLink R_M 33 (T_M 13).1 (T_M 13).2.1 (T_M 13).2.2.1 ∈ TB := TB_t6 40 (by decide +kernel) (by decide +kernel)
set_option maxRecDepth 100000 in
theorem fl_M_36 : Cond.fieldLink R_M 36 (T_M 14).1 (T_M 14).2.1 (T_M 14).2.2.1 ∈ TB := TB_t6 41 (by decide +kernel) (by decide +kernel)
set_option maxRecDepth 100000 in
theorem fl_M_162 : Cond.fieldLink R_M 162 (T_M 15).1 (T_M 15).2.1 (T_M 15).2.2.1 ∈ TB := TB_t6 42 (by decide +kernel) (by decide +kernel)
set_option maxRecDepth 100000 in
theorem fl_M_39 : Cond.fieldLink R_M 39 (T_M 16).1 (T_M 16).2.1 (T_M 16).2.2.1 ∈ TB := TB_t6 43 (by decide +kernel) (by decide +kernel)
set_option maxRecDepth 100000 in
theorem fl_M_42 : Cond.fieldLink R_M 42 (T_M 17).1 (T_M 17).2.1 (T_M 17).2.2.1 ∈ TB := TB_t6 44 (by decide +kernel) (by decide +kernel)
set_option maxRecDepth 100000 in
theorem fl_M_45 : Cond.fieldLink R_M 45 (T_M 18).1 (T_M 18).2.1 (T_M 18).2.2.1 ∈ TB := TB_t6 45 (by decide +kernel) (by decide +kernel)
set_option maxRecDepth 100000 in
theorem fl_M_48 : Cond.fieldLink R_M 48 (T_M 19).1 (T_M 19).2.1 (T_M 19).2.2.1 ∈ TB := TB_t6 46 (by decide +kernel) (by decide +kernel)
set_option maxRecDepth 100000 in
theorem fl_M_51 : Cond.fieldLink R_M 51 (T_M 20).1 (T_M 20).2.1 (T_M 20).2.2.1 ∈ TB := TB_t6 47 (by decide +kernel) (by decide +kernel)
set_option maxRecDepth 100000 in
theorem fl_M_54 : Cond.fieldLink R_M 54 (T_M 21).1 (T_M 21).2.1 (T_M 21).2.2.1 ∈ TB := TB_t6 48 (by decide +kernel) (by decide +kernel)
set_option maxRecDepth 100000 in
theorem fl_M_57 : Cond.fieldLink R_M 57 (T_M 22).1 (T_M 22).2.1 (T_M 22).2.2.1 ∈ TB := TB_t6 49 (by decide +kernel) (by decide +kernel)
set_option maxRecDepth 100000 in
theorem fl_M_60 : Cond.fieldLink R_M 60 (T_M 23).1 (T_M 23).2.1 (T_M 23).2.2.1 ∈ TB := TB_t6 50 (by decide +kernel) (by decide +kernel)
set_option maxRecDepth 100000 in
theorem fl_M_63 : Cond.fieldLink R_M 63 (T_M 24).1 (T_M 24).2.1 (T_M 24).2.2.1 ∈ TB := TB_t6 51 (by decide +kernel) (by decide +kernel)
set_option maxRecDepth 100000 in
theorem fl_M_66 : Cond.fieldLink R_M 66 (T_M 25).1 (T_M 25).2.1 (T_M 25).2.2.1 ∈ TB := TB_t6 52 (by decide +kernel) (by decide +kernel)
set_option maxRecDepth 100000 in
theorem fl_M_69 : Cond.fieldLink R_M 69 (T_M 26).1 (T_M 26).2.1 (T_M 26).2.2.1 ∈ TB := TB_t6 53 (by decide +kernel) (by decide +kernel)
set_option maxRecDepth 100000 in
theorem fl_M_181 : Cond.fieldLink R_M 181 (T_M 27).1 (T_M 27).2.1 (T_M 27).2.2.1 ∈ TB := TB_t6 54 (by decide +kernel) (by decide +kernel)
set_option maxRecDepth 100000 in
theorem fl_M_205 : Cond.fieldLink R_M 205 (T_M 28).1 (T_M 28).2.1 (T_M 28).2.2.1 ∈ TB := TB_t6 55 (by decide +kernel) (by decide +kernel)
set_option maxRecDepth 100000 in
theorem fl_M_208 : Cond.fieldLink R_M 208 (T_M 29).1 (T_M 29).2.1 (T_M 29).2.2.1 ∈ TB := TB_t6 56 (by decide +kernel) (by decide +kernel)
set_option maxRecDepth 100000 in
theorem fl_M_202 : Cond.fieldLink R_M 202 (T_M 30).1 (T_M 30).2.1 (T_M 30).2.2.1 ∈ TB := TB_t6 57 (by decide +kernel) (by decide +kernel)
set_option maxRecDepth 100000 in
theorem fl_M_217 : Cond.fieldLink R_M 217 (T_M 31).1 (T_M 31).2.1 (T_M 31).2.2.1 ∈ TB := TB_t6 58 (by decide +kernel) (by decide +kernel)
set_option maxRecDepth 100000 in
theorem fl_M_72 : Cond.fieldLink R_M 72 (T_M 32).1 (T_M 32).2.1 (T_M 32).2.2.1 ∈ TB := TB_t6 59 (by decide +kernel) (by decide +kernel)
set_option maxRecDepth 100000 in
theorem fl_M_237 : Cond.fieldLink R_M 237 (T_M 33).1 (T_M 33).2.1 (T_M 33).2.2.1 ∈ TB := TB_t6 60 (by decide +kernel) (by decide +kernel)
set_option maxRecDepth 100000 in
theorem fl_M_240 : Cond.fieldLink R_M 240 (T_M 34).1 (T_M 34).2.1 (T_M 34).2.2.1 ∈ TB := TB_t6 61 (by decide +kernel) (by decide +kernel)
set_option maxRecDepth 100000 in
theorem fl_M_243 : Cond.fieldLink R_M 243 (T_M 35).1 (T_M 35).2.1 (T_M 35).2.2.1 ∈ TB := TB_t6 62 (by decide +kernel) (by decide +kernel)
set_option maxRecDepth 100000 in
theorem fl_M_256 : Cond.fieldLink R_M 256 (T_M 36).1 (T_M 36).2.1 (T_M 36).2.2.1 ∈ TB := TB_t6 63 (by decide +kernel) (by decide +kernel)
set_option maxRecDepth 100000 in
theorem fl_M_259 : Cond.fieldLink R_M 259 (T_M 37).1 (T_M 37).2.1 (T_M 37).2.2.1 ∈ TB := TB_t6 64 (by decide +kernel) (by decide +kernel)
set_option maxRecDepth 100000 in
theorem fl_M_284 : Cond.fieldLink R_M 284 (T_M 38).1 (T_M 38).2.1 (T_M 38).2.2.1 ∈ TB := TB_t6 65 (by decide +kernel) (by decide +kernel)
set_option maxRecDepth 100000 in
theorem fl_M_275 : Cond.fieldLink R_M 275 (T_M 39).1 (T_M 39).2.1 (T_M 39).2.2.1 ∈ TB := TB_t6 66 (by decide +kernel) (by decide +kernel)
set_option maxRecDepth 100000 in
theorem fl_M_287 : Cond.fieldLink R_M 287 (T_M 40).1 (T_M 40).2.1 (T_M 40).2.2.1 ∈ TB := TB_t6 67 (by decide +kernel) (by decide +kernel)
set_option maxRecDepth 100000 in
theorem fl_M_278 : Cond.fieldLink R_M 278 (T_M 41).1 (T_M 41).2.1 (T_M 41).2.2.1 ∈ TB := TB_t6 68 (by decide +kernel) (by decide +kernel)
set_option maxRecDepth 100000 in
theorem fl_M_290 : Cond.fieldLink R_M 290 (T_M 42).1 (T_M 42).2.1 (T_M 42).2.2.1 ∈ TB := TB_t6 69 (by decide +kernel) (by decide +kernel)
set_option maxRecDepth 100000 in
theorem fl_M_281 : Cond.fieldLink R_M 281 (T_M 43).1 (T_M 43).2.1 (T_M 43).2.2.1 ∈ TB := TB_t6 70 (by decide +kernel) (by decide +kernel)
set_option maxRecDepth 100000 in
theorem fl_M_75 : Cond.fieldLink R_M 75 (T_M 44).1 (T_M 44).2.1 (T_M 44).2.2.1 ∈ TB := TB_t6 71 (by decide +kernel) (by decide +kernel)
set_option maxRecDepth 100000 in
theorem fl_M_79 : Cond.fieldLink R_M 79 (T_M 45).1 (T_M 45).2.1 (T_M 45).2.2.1 ∈ TB := TB_t6 72 (by decide +kernel) (by decide +kernel)
set_option maxRecDepth 100000 in
theorem fl_M_325 : Cond.fieldLink R_M 325 (T_M 46).1 (T_M 46).2.1 (T_M 46).2.2.1 ∈ TB := TB_t6 73 (by decide +kernel) (by decide +kernel)
set_option maxRecDepth 100000 in
theorem fl_M_82 : Cond.fieldLink R_M 82 (T_M 47).1 (T_M 47).2.1 (T_M 47).2.2.1 ∈ TB := TB_t6 74 (by decide +kernel) (by decide +kernel)
set_option maxRecDepth 100000 in
theorem fl_M_85 : Cond.fieldLink R_M 85 (T_M 48).1 (T_M 48).2.1 (T_M 48).2.2.1 ∈ TB := TB_t6 75 (by decide +kernel) (by decide +kernel)
set_option maxRecDepth 100000 in
theorem fl_M_344 : Cond.fieldLink R_M 344 (T_M 49).1 (T_M 49).2.1 (T_M 49).2.2.1 ∈ TB := TB_t6 76 (by decide +kernel) (by decide +kernel)
set_option maxRecDepth 100000 in
theorem fl_M_88 : Cond.fieldLink R_M 88 (T_M 50).1 (T_M 50).2.1 (T_M 50).2.2.1 ∈ TB := TB_t6 77 (by decide +kernel) (by decide +kernel)
set_option maxRecDepth 100000 in
theorem fl_M_91 : Cond.fieldLink R_M 91 (T_M 51).1 (T_M 51).2.1 (T_M 51).2.2.1 ∈ TB := TB_t6 78 (by decide +kernel) (by decide +kernel)
set_option maxRecDepth 100000 in
theorem fl_M_94 : Cond.fieldLink R_M 94 (T_M 52).1 (T_M 52).2.1 (T_M 52).2.2.1 ∈ TB := TB_t6 79 (by decide +kernel) (by decide +kernel)
set_option maxRecDepth 100000 in
theorem fl_M_341 : Cond.fieldLink R_M 341 (T_M 53).1 (T_M 53).2.1 (T_M 53).2.2.1 ∈ TB := TB_t6 80 (by decide +kernel) (by decide +kernel)
set_option maxRecDepth 100000 in
theorem fl_M_97 : Cond.fieldLink R_M 97 (T_M 54).1 (T_M 54).2.1 (T_M 54).2.2.1 ∈ TB := TB_t6 81 (by decide +kernel) (by decide +kernel)
set_option maxRecDepth 100000 in
theorem fl_M_100 : Cond.fieldLink R_M 100 (T_M 55).1 (T_M 55).2.1 (T_M 55).2.2.1 ∈ TB := TB_t6 82 (by decide +kernel) (by decide +kernel)
set_option maxRecDepth 100000 in
theorem ml_W_18 : Cond.methodLink R_W 18 y_Sf_init ∈ TB := TB_t1 54 (by decide +kernel) (by decide +kernel)
set_option maxRecDepth 100000 in
theorem ml_W_25 : Cond.methodLink R_W 25 y_Gr_init ∈ TB := TB_t1 68 (by decide +kernel) (by decide +kernel)
set_option maxRecDepth 100000 in
theorem ml_W_32 : Cond.methodLink R_W 32 y_Cr_init ∈ TB := TB_t1 114 (by decide +kernel) (by decide +kernel)
set_option maxRecDepth 100000 in
theorem ml_W_41 : Cond.methodLink R_W 41 y_Wa_init ∈ TB := TB_t2 0 (by decide +kernel) (by decide +kernel)
set_option maxRecDepth 100000 in
theorem ml_W_50 : Cond.methodLink R_W 50 y_Me_init ∈ TB := TB_t2 56 (by decide +kernel) (by decide +kernel)
set_option maxRecDepth 100000 in
theorem ml_Me_21 : Cond.methodLink R_Me 21 y_Cr_get ∈ TB := TB_t2 62 (by decide +kernel) (by decide +kernel)
set_option maxRecDepth 100000 in
theorem ml_Me_27 : Cond.methodLink R_Me 27 y_St_init ∈ TB := TB_t2 66 (by decide +kernel) (by decide +kernel)
set_option maxRecDepth 100000 in
theorem ml_W_57 : Cond.methodLink R_W 57 y_To_init ∈ TB := TB_t2 120 (by decide +kernel) (by decide +kernel)
set_option maxRecDepth 100000 in
theorem ml_W_64 : Cond.methodLink R_W 64 y_Sh_init ∈ TB := TB_t2 149 (by decide +kernel) (by decide +kernel)
set_option maxRecDepth 100000 in
theorem ml_Sh_36 : Cond.methodLink R_Sh 36 y_Sh_forget ∈ TB := TB_t2 153 (by decide +kernel) (by decide +kernel)
set_option maxRecDepth 100000 in
theorem ml_W_71 : Cond.methodLink R_W 71 y_W_isRow ∈ TB := TB_t2 210 (by decide +kernel) (by decide +kernel)
set_option maxRecDepth 100000 in
theorem ml_W_75 : Cond.methodLink R_W 75 y_Ta_found ∈ TB := TB_t2 213 (by decide +kernel) (by decide +kernel)
set_option maxRecDepth 100000 in
theorem ml_W_79 : Cond.methodLink R_W 79 y_Sf_put ∈ TB := TB_t2 217 (by decide +kernel) (by decide +kernel)
set_option maxRecDepth 100000 in
theorem ml_Sf_19 : Cond.methodLink R_Sf 19 y_Sf_write ∈ TB := TB_t2 221 (by decide +kernel) (by decide +kernel)
set_option maxRecDepth 100000 in
theorem ml_W_83 : Cond.methodLink R_W 83 y_Sf_lacks ∈ TB := TB_t2 229 (by decide +kernel) (by decide +kernel)
set_option maxRecDepth 100000 in
theorem ml_W_86 : Cond.methodLink R_W 86 y_Sf_sizeOf ∈ TB := TB_t2 233 (by decide +kernel) (by decide +kernel)
set_option maxRecDepth 100000 in
theorem ml_W_89 : Cond.methodLink R_W 89 y_Sf_byteAt ∈ TB := TB_t2 237 (by decide +kernel) (by decide +kernel)
set_option maxRecDepth 100000 in
theorem ml_W_93 : Cond.methodLink R_W 93 y_Sf_write ∈ TB := TB_t3 1 (by decide +kernel) (by decide +kernel)
set_option maxRecDepth 100000 in
theorem ml_W_97 : Cond.methodLink R_W 97 y_Sf_remove ∈ TB := TB_t3 6 (by decide +kernel) (by decide +kernel)
set_option maxRecDepth 100000 in
theorem ml_W_101 : Cond.methodLink R_W 101 y_Sf_holds ∈ TB := TB_t3 14 (by decide +kernel) (by decide +kernel)
set_option maxRecDepth 100000 in
theorem ml_W_105 : Cond.methodLink R_W 105 y_Sf_move ∈ TB := TB_t3 18 (by decide +kernel) (by decide +kernel)
set_option maxRecDepth 100000 in
theorem ml_W_109 : Cond.methodLink R_W 109 y_Sf_sumOf ∈ TB := TB_t3 29 (by decide +kernel) (by decide +kernel)
set_option maxRecDepth 100000 in
theorem ml_Sf_29 : Cond.methodLink R_Sf 29 y_Sf_byteAt ∈ TB := TB_t3 33 (by decide +kernel) (by decide +kernel)
set_option maxRecDepth 100000 in
theorem ml_W_112 : Cond.methodLink R_W 112 y_Sf_allWithin ∈ TB := TB_t3 38 (by decide +kernel) (by decide +kernel)
set_option maxRecDepth 100000 in
theorem ml_W_115 : Cond.methodLink R_W 115 y_Gr_begin ∈ TB := TB_t3 42 (by decide +kernel) (by decide +kernel)
set_option maxRecDepth 100000 in
theorem ml_Gr_45 : Cond.methodLink R_Gr 45 y_Gr_wallsChanged ∈ TB := TB_t3 46 (by decide +kernel) (by decide +kernel)
set_option maxRecDepth 100000 in
theorem ml_W_122 : Cond.methodLink R_W 122 y_Gr_build ∈ TB := TB_t3 50 (by decide +kernel) (by decide +kernel)
set_option maxRecDepth 100000 in
theorem ml_Gr_48 : Cond.methodLink R_Gr 48 y_Gr_setLength ∈ TB := TB_t3 54 (by decide +kernel) (by decide +kernel)
set_option maxRecDepth 100000 in
theorem ml_W_125 : Cond.methodLink R_W 125 y_Gr_has ∈ TB := TB_t3 66 (by decide +kernel) (by decide +kernel)
set_option maxRecDepth 100000 in
theorem ml_W_128 : Cond.methodLink R_W 128 y_Gr_lengthOf ∈ TB := TB_t3 70 (by decide +kernel) (by decide +kernel)
set_option maxRecDepth 100000 in
theorem ml_W_137 : Cond.methodLink R_W 137 y_Gr_turnBroken ∈ TB := TB_t3 78 (by decide +kernel) (by decide +kernel)
set_option maxRecDepth 100000 in
theorem ml_Gr_52 : Cond.methodLink R_Gr 52 y_Gr_lengthOf ∈ TB := TB_t3 82 (by decide +kernel) (by decide +kernel)
set_option maxRecDepth 100000 in
theorem ml_W_140 : Cond.methodLink R_W 140 y_Gr_measure ∈ TB := TB_t3 87 (by decide +kernel) (by decide +kernel)
set_option maxRecDepth 100000 in
theorem ml_Gr_57 : Cond.methodLink R_Gr 57 y_Gr_shortenBy ∈ TB := TB_t3 92 (by decide +kernel) (by decide +kernel)
set_option maxRecDepth 100000 in
theorem ml_W_143 : Cond.methodLink R_W 143 y_Gr_farOf ∈ TB := TB_t3 96 (by decide +kernel) (by decide +kernel)
set_option maxRecDepth 100000 in
theorem ml_W_146 : Cond.methodLink R_W 146 y_Gr_changeWorth ∈ TB := TB_t3 104 (by decide +kernel) (by decide +kernel)
set_option maxRecDepth 100000 in
theorem ml_W_149 : Cond.methodLink R_W 149 y_Gr_changeBase ∈ TB := TB_t3 112 (by decide +kernel) (by decide +kernel)
set_option maxRecDepth 100000 in
theorem ml_W_153 : Cond.methodLink R_W 153 y_W_isWalkerAsTold ∈ TB := TB_t3 120 (by decide +kernel) (by decide +kernel)
set_option maxRecDepth 100000 in
theorem ml_W_159 : Cond.methodLink R_W 159 y_Cr_add ∈ TB := TB_t3 124 (by decide +kernel) (by decide +kernel)
set_option maxRecDepth 100000 in
theorem ml_Cr_39 : Cond.methodLink R_Cr 39 y_Cr_changing ∈ TB := TB_t3 128 (by decide +kernel) (by decide +kernel)
set_option maxRecDepth 100000 in
theorem ml_W_163 : Cond.methodLink R_W 163 y_Cr_has ∈ TB := TB_t3 136 (by decide +kernel) (by decide +kernel)
set_option maxRecDepth 100000 in
theorem ml_W_164 : Cond.methodLink R_W 164 y_Cr_lacks ∈ TB := TB_t3 140 (by decide +kernel) (by decide +kernel)
set_option maxRecDepth 100000 in
theorem ml_W_165 : Cond.methodLink R_W 165 y_Cr_changing ∈ TB := TB_t3 144 (by decide +kernel) (by decide +kernel)
set_option maxRecDepth 100000 in
theorem ml_W_181 : Cond.methodLink R_W 181 y_Cr_refresh ∈ TB := TB_t3 157 (by decide +kernel) (by decide +kernel)
set_option maxRecDepth 100000 in
theorem ml_Cr_60 : Cond.methodLink R_Cr 60 y_Gr_measure ∈ TB := TB_t3 161 (by decide +kernel) (by decide +kernel)
set_option maxRecDepth 100000 in
theorem ml_Cr_63 : Cond.methodLink R_Cr 63 y_Wk_prepare ∈ TB := TB_t3 162 (by decide +kernel) (by decide +kernel)
set_option maxRecDepth 100000 in
theorem ml_Wk_65 : Cond.methodLink R_Wk 65 y_Gr_has ∈ TB := TB_t3 166 (by decide +kernel) (by decide +kernel)
set_option maxRecDepth 100000 in
theorem ml_Wk_94 : Cond.methodLink R_Wk 94 y_Gr_within ∈ TB := TB_t3 167 (by decide +kernel) (by decide +kernel)
set_option maxRecDepth 100000 in
theorem ml_Gr_61 : Cond.methodLink R_Gr 61 y_Gr_farOf ∈ TB := TB_t3 171 (by decide +kernel) (by decide +kernel)
set_option maxRecDepth 100000 in
theorem ml_Wk_97 : Cond.methodLink R_Wk 97 y_Wk_faultOn ∈ TB := TB_t3 172 (by decide +kernel) (by decide +kernel)
set_option maxRecDepth 100000 in
theorem ml_Wk_71 : Cond.methodLink R_Wk 71 y_Wk_legBehind ∈ TB := TB_t3 176 (by decide +kernel) (by decide +kernel)
set_option maxRecDepth 100000 in
theorem ml_Wk_75 : Cond.methodLink R_Wk 75 y_Gr_lengthOf ∈ TB := TB_t3 180 (by decide +kernel) (by decide +kernel)
set_option maxRecDepth 100000 in
theorem ml_Wk_79 : Cond.methodLink R_Wk 79 y_Wk_longestRide ∈ TB := TB_t3 181 (by decide +kernel) (by decide +kernel)
set_option maxRecDepth 100000 in
theorem ml_Wk_86 : Cond.methodLink R_Wk 86 y_Gr_isBase ∈ TB := TB_t3 185 (by decide +kernel) (by decide +kernel)
set_option maxRecDepth 100000 in
theorem ml_Wk_89 : Cond.methodLink R_Wk 89 y_Jm_max_7cf53 ∈ TB := TB_t3 189 (by decide +kernel) (by decide +kernel)
set_option maxRecDepth 100000 in
theorem ml_Wk_83 : Cond.methodLink R_Wk 83 y_Wk_rideFault ∈ TB := TB_t3 192 (by decide +kernel) (by decide +kernel)
set_option maxRecDepth 100000 in
theorem ml_Wk_100 : Cond.methodLink R_Wk 100 y_Wk_prepareLegs ∈ TB := TB_t3 196 (by decide +kernel) (by decide +kernel)
set_option maxRecDepth 100000 in
theorem ml_Wk_104 : Cond.methodLink R_Wk 104 y_Wk_unitParts ∈ TB := TB_t3 200 (by decide +kernel) (by decide +kernel)
set_option maxRecDepth 100000 in
theorem ml_W_184 : Cond.methodLink R_W 184 y_Cr_tell ∈ TB := TB_t3 204 (by decide +kernel) (by decide +kernel)
set_option maxRecDepth 100000 in
theorem ml_Cr_90 : Cond.methodLink R_Cr 90 y_Wk_unitParts ∈ TB := TB_t3 208 (by decide +kernel) (by decide +kernel)
set_option maxRecDepth 100000 in
theorem ml_Cr_83 : Cond.methodLink R_Cr 83 y_Cr_goes ∈ TB := TB_t3 209 (by decide +kernel) (by decide +kernel)
set_option maxRecDepth 100000 in
theorem ml_W_187 : Cond.methodLink R_W 187 y_Cr_get ∈ TB := TB_t3 217 (by decide +kernel) (by decide +kernel)
set_option maxRecDepth 100000 in
theorem ml_W_190 : Cond.methodLink R_W 190 y_Wk_isOf ∈ TB := TB_t3 218 (by decide +kernel) (by decide +kernel)
set_option maxRecDepth 100000 in
theorem ml_W_193 : Cond.methodLink R_W 193 y_Wk_markOf ∈ TB := TB_t3 222 (by decide +kernel) (by decide +kernel)
set_option maxRecDepth 100000 in
theorem ml_W_197 : Cond.methodLink R_W 197 y_Sf_hasTwins ∈ TB := TB_t3 230 (by decide +kernel) (by decide +kernel)
set_option maxRecDepth 100000 in
theorem ml_W_200 : Cond.methodLink R_W 200 y_W_writePlan ∈ TB := TB_t3 234 (by decide +kernel) (by decide +kernel)
set_option maxRecDepth 100000 in
theorem ml_W_292 : Cond.methodLink R_W 292 y_Jm_min_7cf53 ∈ TB := TB_t3 238 (by decide +kernel) (by decide +kernel)
set_option maxRecDepth 100000 in
theorem ml_W_387 : Cond.methodLink R_W 387 y_Jm_max_7cf53 ∈ TB := TB_t4 1 (by decide +kernel) (by decide +kernel)
set_option maxRecDepth 100000 in
theorem ml_W_213 : Cond.methodLink R_W 213 y_Wk_faultOn ∈ TB := TB_t4 14 (by decide +kernel) (by decide +kernel)
set_option maxRecDepth 100000 in
theorem ml_W_217 : Cond.methodLink R_W 217 y_W_isTime ∈ TB := TB_t4 19 (by decide +kernel) (by decide +kernel)
set_option maxRecDepth 100000 in
theorem ml_W_220 : Cond.methodLink R_W 220 y_Cr_goes ∈ TB := TB_t4 23 (by decide +kernel) (by decide +kernel)
set_option maxRecDepth 100000 in
theorem ml_W_223 : Cond.methodLink R_W 223 y_Wk_placeAt ∈ TB := TB_t4 24 (by decide +kernel) (by decide +kernel)
set_option maxRecDepth 100000 in
theorem ml_Wk_111 : Cond.methodLink R_Wk 111 y_Wk_phaseAt ∈ TB := TB_t4 28 (by decide +kernel) (by decide +kernel)
set_option maxRecDepth 100000 in
theorem ml_Wk_108 : Cond.methodLink R_Wk 108 y_Jm_floorMod_7cf53 ∈ TB := TB_t4 32 (by decide +kernel) (by decide +kernel)
set_option maxRecDepth 100000 in
theorem ml_Wk_114 : Cond.methodLink R_Wk 114 y_Wk_legAt ∈ TB := TB_t4 35 (by decide +kernel) (by decide +kernel)
set_option maxRecDepth 100000 in
theorem ml_W_229 : Cond.methodLink R_W 229 y_Cr_jointOf ∈ TB := TB_t4 43 (by decide +kernel) (by decide +kernel)
set_option maxRecDepth 100000 in
theorem ml_W_232 : Cond.methodLink R_W 232 y_W_joint ∈ TB := TB_t4 54 (by decide +kernel) (by decide +kernel)
set_option maxRecDepth 100000 in
theorem ml_W_236 : Cond.methodLink R_W 236 y_Cr_seenAt ∈ TB := TB_t4 55 (by decide +kernel) (by decide +kernel)
set_option maxRecDepth 100000 in
theorem ml_Cr_87 : Cond.methodLink R_Cr 87 y_Wk_seenAt ∈ TB := TB_t4 59 (by decide +kernel) (by decide +kernel)
set_option maxRecDepth 100000 in
theorem ml_W_242 : Cond.methodLink R_W 242 y_Ji_bitCount_0f7a4 ∈ TB := TB_t4 63 (by decide +kernel) (by decide +kernel)
set_option maxRecDepth 100000 in
theorem ml_W_247 : Cond.methodLink R_W 247 y_W_watchPost ∈ TB := TB_t4 73 (by decide +kernel) (by decide +kernel)
set_option maxRecDepth 100000 in
theorem ml_W_259 : Cond.methodLink R_W 259 y_Wa_look ∈ TB := TB_t4 77 (by decide +kernel) (by decide +kernel)
set_option maxRecDepth 100000 in
theorem ml_Wa_62 : Cond.methodLink R_Wa 62 y_Cr_jointOf ∈ TB := TB_t4 81 (by decide +kernel) (by decide +kernel)
set_option maxRecDepth 100000 in
theorem ml_Wa_68 : Cond.methodLink R_Wa 68 y_Jm_max_7cf53 ∈ TB := TB_t4 82 (by decide +kernel) (by decide +kernel)
set_option maxRecDepth 100000 in
theorem ml_Wa_74 : Cond.methodLink R_Wa 74 y_Cr_everSeen ∈ TB := TB_t4 83 (by decide +kernel) (by decide +kernel)
set_option maxRecDepth 100000 in
theorem ml_Wa_77 : Cond.methodLink R_Wa 77 y_Wa_alwaysSeen ∈ TB := TB_t4 87 (by decide +kernel) (by decide +kernel)
set_option maxRecDepth 100000 in
theorem ml_Wa_96 : Cond.methodLink R_Wa 96 y_Cr_get ∈ TB := TB_t4 91 (by decide +kernel) (by decide +kernel)
set_option maxRecDepth 100000 in
theorem ml_Wa_80 : Cond.methodLink R_Wa 80 y_Wa_clear ∈ TB := TB_t4 92 (by decide +kernel) (by decide +kernel)
set_option maxRecDepth 100000 in
theorem ml_Wa_83 : Cond.methodLink R_Wa 83 y_Wa_enlist ∈ TB := TB_t4 96 (by decide +kernel) (by decide +kernel)
set_option maxRecDepth 100000 in
theorem ml_Wa_107 : Cond.methodLink R_Wa 107 y_Wa_setOut ∈ TB := TB_t4 100 (by decide +kernel) (by decide +kernel)
set_option maxRecDepth 100000 in
theorem ml_Wa_111 : Cond.methodLink R_Wa 111 y_Wk_phaseAt ∈ TB := TB_t4 104 (by decide +kernel) (by decide +kernel)
set_option maxRecDepth 100000 in
theorem ml_Wa_114 : Cond.methodLink R_Wa 114 y_Wk_legAt ∈ TB := TB_t4 105 (by decide +kernel) (by decide +kernel)
set_option maxRecDepth 100000 in
theorem ml_Wa_120 : Cond.methodLink R_Wa 120 y_Wk_legBehind ∈ TB := TB_t4 106 (by decide +kernel) (by decide +kernel)
set_option maxRecDepth 100000 in
theorem ml_Wa_129 : Cond.methodLink R_Wa 129 y_Wa_coverAhead ∈ TB := TB_t4 107 (by decide +kernel) (by decide +kernel)
set_option maxRecDepth 100000 in
theorem ml_Wa_87 : Cond.methodLink R_Wa 87 y_Wa_sweep ∈ TB := TB_t4 111 (by decide +kernel) (by decide +kernel)
set_option maxRecDepth 100000 in
theorem ml_Wa_133 : Cond.methodLink R_Wa 133 y_Wa_earliest ∈ TB := TB_t4 115 (by decide +kernel) (by decide +kernel)
set_option maxRecDepth 100000 in
theorem ml_Wa_140 : Cond.methodLink R_Wa 140 y_Wa_see ∈ TB := TB_t4 119 (by decide +kernel) (by decide +kernel)
set_option maxRecDepth 100000 in
theorem ml_Wa_144 : Cond.methodLink R_Wa 144 y_Wa_seeOne ∈ TB := TB_t4 123 (by decide +kernel) (by decide +kernel)
set_option maxRecDepth 100000 in
theorem ml_Wa_147 : Cond.methodLink R_Wa 147 y_Wa_noteGap ∈ TB := TB_t4 127 (by decide +kernel) (by decide +kernel)
set_option maxRecDepth 100000 in
theorem ml_Wa_90 : Cond.methodLink R_Wa 90 y_Wa_closeRound ∈ TB := TB_t4 131 (by decide +kernel) (by decide +kernel)
set_option maxRecDepth 100000 in
theorem ml_W_250 : Cond.methodLink R_W 250 y_Wa_idleOf ∈ TB := TB_t4 135 (by decide +kernel) (by decide +kernel)
set_option maxRecDepth 100000 in
theorem ml_W_253 : Cond.methodLink R_W 253 y_Wa_idleStartOf ∈ TB := TB_t4 143 (by decide +kernel) (by decide +kernel)
set_option maxRecDepth 100000 in
theorem ml_W_256 : Cond.methodLink R_W 256 y_Gr_worthy ∈ TB := TB_t4 151 (by decide +kernel) (by decide +kernel)
set_option maxRecDepth 100000 in
theorem ml_W_262 : Cond.methodLink R_W 262 y_Wa_worstPost ∈ TB := TB_t4 155 (by decide +kernel) (by decide +kernel)
set_option maxRecDepth 100000 in
theorem ml_Wa_162 : Cond.methodLink R_Wa 162 y_Ji_numberOfTrailingZeros_0f7a4 ∈ TB := TB_t4 159 (by decide +kernel) (by decide +kernel)
set_option maxRecDepth 100000 in
theorem ml_Wa_167 : Cond.methodLink R_Wa 167 y_Wa_loadOf ∈ TB := TB_t4 163 (by decide +kernel) (by decide +kernel)
set_option maxRecDepth 100000 in
theorem ml_Wa_150 : Cond.methodLink R_Wa 150 y_Wa_idleOf ∈ TB := TB_t4 167 (by decide +kernel) (by decide +kernel)
set_option maxRecDepth 100000 in
theorem ml_Wa_157 : Cond.methodLink R_Wa 157 y_Gr_worthOf ∈ TB := TB_t4 168 (by decide +kernel) (by decide +kernel)
set_option maxRecDepth 100000 in
theorem ml_W_265 : Cond.methodLink R_W 265 y_Wa_loadOf ∈ TB := TB_t4 172 (by decide +kernel) (by decide +kernel)
set_option maxRecDepth 100000 in
theorem ml_W_270 : Cond.methodLink R_W 270 y_Wa_unseenOf ∈ TB := TB_t4 177 (by decide +kernel) (by decide +kernel)
set_option maxRecDepth 100000 in
theorem ml_W_273 : Cond.methodLink R_W 273 y_Ta_tellFraction ∈ TB := TB_t4 181 (by decide +kernel) (by decide +kernel)
set_option maxRecDepth 100000 in
theorem ml_W_277 : Cond.methodLink R_W 277 y_W_isNeed ∈ TB := TB_t4 190 (by decide +kernel) (by decide +kernel)
set_option maxRecDepth 100000 in
theorem ml_W_280 : Cond.methodLink R_W 280 y_Wa_openingsOf ∈ TB := TB_t4 193 (by decide +kernel) (by decide +kernel)
set_option maxRecDepth 100000 in
theorem ml_W_283 : Cond.methodLink R_W 283 y_Wa_bestForThief ∈ TB := TB_t4 201 (by decide +kernel) (by decide +kernel)
set_option maxRecDepth 100000 in
theorem ml_Wa_170 : Cond.methodLink R_Wa 170 y_Wa_lureOf ∈ TB := TB_t4 205 (by decide +kernel) (by decide +kernel)
set_option maxRecDepth 100000 in
theorem ml_W_286 : Cond.methodLink R_W 286 y_Wa_lureOf ∈ TB := TB_t4 209 (by decide +kernel) (by decide +kernel)
set_option maxRecDepth 100000 in
theorem ml_W_289 : Cond.methodLink R_W 289 y_Wa_longestIdle ∈ TB := TB_t4 214 (by decide +kernel) (by decide +kernel)
set_option maxRecDepth 100000 in
theorem ml_W_297 : Cond.methodLink R_W 297 y_W_isSpentWithAny ∈ TB := TB_t4 222 (by decide +kernel) (by decide +kernel)
set_option maxRecDepth 100000 in
theorem ml_W_390 : Cond.methodLink R_W 390 y_W_isLoss ∈ TB := TB_t4 226 (by decide +kernel) (by decide +kernel)
set_option maxRecDepth 100000 in
theorem ml_W_301 : Cond.methodLink R_W 301 y_W_firstBlindSet ∈ TB := TB_t4 229 (by decide +kernel) (by decide +kernel)
set_option maxRecDepth 100000 in
theorem ml_W_393 : Cond.methodLink R_W 393 y_Cr_everSeen ∈ TB := TB_t4 233 (by decide +kernel) (by decide +kernel)
set_option maxRecDepth 100000 in
theorem ml_W_304 : Cond.methodLink R_W 304 y_W_tellGreatestLoad ∈ TB := TB_t4 234 (by decide +kernel) (by decide +kernel)
set_option maxRecDepth 100000 in
theorem ml_W_307 : Cond.methodLink R_W 307 y_W_isStart ∈ TB := TB_t5 2 (by decide +kernel) (by decide +kernel)
set_option maxRecDepth 100000 in
theorem ml_W_312 : Cond.methodLink R_W 312 y_Me_firstOf ∈ TB := TB_t5 6 (by decide +kernel) (by decide +kernel)
set_option maxRecDepth 100000 in
theorem ml_Me_37 : Cond.methodLink R_Me 37 y_Cr_jointOf ∈ TB := TB_t5 10 (by decide +kernel) (by decide +kernel)
set_option maxRecDepth 100000 in
theorem ml_Me_43 : Cond.methodLink R_Me 43 y_St_set ∈ TB := TB_t5 12 (by decide +kernel) (by decide +kernel)
set_option maxRecDepth 100000 in
theorem ml_St_49 : Cond.methodLink R_St 49 y_St_stand ∈ TB := TB_t5 16 (by decide +kernel) (by decide +kernel)
set_option maxRecDepth 100000 in
theorem ml_St_63 : Cond.methodLink R_St 63 y_Jm_floorMod_f86c9 ∈ TB := TB_t5 23 (by decide +kernel) (by decide +kernel)
set_option maxRecDepth 100000 in
theorem ml_St_69 : Cond.methodLink R_St 69 y_Wk_legAt ∈ TB := TB_t5 26 (by decide +kernel) (by decide +kernel)
set_option maxRecDepth 100000 in
theorem ml_St_74 : Cond.methodLink R_St 74 y_St_read ∈ TB := TB_t5 27 (by decide +kernel) (by decide +kernel)
set_option maxRecDepth 100000 in
theorem ml_St_85 : Cond.methodLink R_St 85 y_Wk_legBehind ∈ TB := TB_t5 31 (by decide +kernel) (by decide +kernel)
set_option maxRecDepth 100000 in
theorem ml_Me_51 : Cond.methodLink R_Me 51 y_Jm_max_f86c9 ∈ TB := TB_t5 32 (by decide +kernel) (by decide +kernel)
set_option maxRecDepth 100000 in
theorem ml_Me_59 : Cond.methodLink R_Me 59 y_Me_together ∈ TB := TB_t5 36 (by decide +kernel) (by decide +kernel)
set_option maxRecDepth 100000 in
theorem ml_Me_66 : Cond.methodLink R_Me 66 y_Jm_min_f86c9 ∈ TB := TB_t5 40 (by decide +kernel) (by decide +kernel)
set_option maxRecDepth 100000 in
theorem ml_Me_84 : Cond.methodLink R_Me 84 y_Me_sameWay ∈ TB := TB_t5 43 (by decide +kernel) (by decide +kernel)
set_option maxRecDepth 100000 in
theorem ml_Me_87 : Cond.methodLink R_Me 87 y_Me_towards ∈ TB := TB_t5 47 (by decide +kernel) (by decide +kernel)
set_option maxRecDepth 100000 in
theorem ml_Me_71 : Cond.methodLink R_Me 71 y_St_goOn ∈ TB := TB_t5 52 (by decide +kernel) (by decide +kernel)
set_option maxRecDepth 100000 in
theorem ml_W_316 : Cond.methodLink R_W 316 y_W_tellTime ∈ TB := TB_t5 56 (by decide +kernel) (by decide +kernel)
set_option maxRecDepth 100000 in
theorem ml_W_320 : Cond.methodLink R_W 320 y_Cr_isAnyPairSpent ∈ TB := TB_t5 65 (by decide +kernel) (by decide +kernel)
set_option maxRecDepth 100000 in
theorem ml_Cr_76 : Cond.methodLink R_Cr 76 y_Cr_jointOf ∈ TB := TB_t5 69 (by decide +kernel) (by decide +kernel)
set_option maxRecDepth 100000 in
theorem ml_W_324 : Cond.methodLink R_W 324 y_Me_pass ∈ TB := TB_t5 70 (by decide +kernel) (by decide +kernel)
set_option maxRecDepth 100000 in
theorem ml_Me_96 : Cond.methodLink R_Me 96 y_Me_earliest ∈ TB := TB_t5 74 (by decide +kernel) (by decide +kernel)
set_option maxRecDepth 100000 in
theorem ml_Me_99 : Cond.methodLink R_Me 99 y_Me_tellOthers ∈ TB := TB_t5 78 (by decide +kernel) (by decide +kernel)
set_option maxRecDepth 100000 in
theorem ml_Me_103 : Cond.methodLink R_Me 103 y_Me_firstOf ∈ TB := TB_t5 82 (by decide +kernel) (by decide +kernel)
set_option maxRecDepth 100000 in
theorem ml_W_328 : Cond.methodLink R_W 328 y_Me_wordAt ∈ TB := TB_t5 83 (by decide +kernel) (by decide +kernel)
set_option maxRecDepth 100000 in
theorem ml_W_332 : Cond.methodLink R_W 332 y_To_refresh ∈ TB := TB_t5 95 (by decide +kernel) (by decide +kernel)
set_option maxRecDepth 100000 in
theorem ml_To_40 : Cond.methodLink R_To 40 y_Gr_measure ∈ TB := TB_t5 99 (by decide +kernel) (by decide +kernel)
set_option maxRecDepth 100000 in
theorem ml_To_43 : Cond.methodLink R_To 43 y_To_gatherStops ∈ TB := TB_t5 100 (by decide +kernel) (by decide +kernel)
set_option maxRecDepth 100000 in
theorem ml_To_59 : Cond.methodLink R_To 59 y_Gr_worthOf ∈ TB := TB_t5 104 (by decide +kernel) (by decide +kernel)
set_option maxRecDepth 100000 in
theorem ml_To_46 : Cond.methodLink R_To 46 y_To_isParted ∈ TB := TB_t5 105 (by decide +kernel) (by decide +kernel)
set_option maxRecDepth 100000 in
theorem ml_To_63 : Cond.methodLink R_To 63 y_To_way ∈ TB := TB_t5 109 (by decide +kernel) (by decide +kernel)
set_option maxRecDepth 100000 in
theorem ml_To_67 : Cond.methodLink R_To 67 y_Gr_farOf ∈ TB := TB_t5 113 (by decide +kernel) (by decide +kernel)
set_option maxRecDepth 100000 in
theorem ml_To_50 : Cond.methodLink R_To 50 y_To_workHomeward ∈ TB := TB_t5 114 (by decide +kernel) (by decide +kernel)
set_option maxRecDepth 100000 in
theorem ml_To_70 : Cond.methodLink R_To 70 y_To_bestBeyond ∈ TB := TB_t5 118 (by decide +kernel) (by decide +kernel)
set_option maxRecDepth 100000 in
theorem ml_To_74 : Cond.methodLink R_To 74 y_To_wayOver ∈ TB := TB_t5 123 (by decide +kernel) (by decide +kernel)
set_option maxRecDepth 100000 in
theorem ml_To_78 : Cond.methodLink R_To 78 y_Jm_min_7cf53 ∈ TB := TB_t5 127 (by decide +kernel) (by decide +kernel)
set_option maxRecDepth 100000 in
theorem ml_To_53 : Cond.methodLink R_To 53 y_To_follow ∈ TB := TB_t5 128 (by decide +kernel) (by decide +kernel)
set_option maxRecDepth 100000 in
theorem ml_To_83 : Cond.methodLink R_To 83 y_To_nextStop ∈ TB := TB_t5 132 (by decide +kernel) (by decide +kernel)
set_option maxRecDepth 100000 in
theorem ml_W_336 : Cond.methodLink R_W 336 y_To_stopAt ∈ TB := TB_t5 140 (by decide +kernel) (by decide +kernel)
set_option maxRecDepth 100000 in
theorem ml_W_339 : Cond.methodLink R_W 339 y_Sh_settle ∈ TB := TB_t5 148 (by decide +kernel) (by decide +kernel)
set_option maxRecDepth 100000 in
theorem ml_Sh_39 : Cond.methodLink R_Sh 39 y_Sh_gatherSharers ∈ TB := TB_t5 152 (by decide +kernel) (by decide +kernel)
set_option maxRecDepth 100000 in
theorem ml_Sh_64 : Cond.methodLink R_Sh 64 y_Cr_get ∈ TB := TB_t5 156 (by decide +kernel) (by decide +kernel)
set_option maxRecDepth 100000 in
theorem ml_Sh_47 : Cond.methodLink R_Sh 47 y_Sh_place ∈ TB := TB_t5 157 (by decide +kernel) (by decide +kernel)
set_option maxRecDepth 100000 in
theorem ml_Sh_51 : Cond.methodLink R_Sh 51 y_Sh_leastOf ∈ TB := TB_t5 160 (by decide +kernel) (by decide +kernel)
set_option maxRecDepth 100000 in
theorem ml_Sh_80 : Cond.methodLink R_Sh 80 y_Sh_leastWith ∈ TB := TB_t5 165 (by decide +kernel) (by decide +kernel)
set_option maxRecDepth 100000 in
theorem ml_Sh_89 : Cond.methodLink R_Sh 89 y_Gr_lengthOf ∈ TB := TB_t5 169 (by decide +kernel) (by decide +kernel)
set_option maxRecDepth 100000 in
theorem ml_Sh_92 : Cond.methodLink R_Sh 92 y_Sh_timeOf ∈ TB := TB_t5 170 (by decide +kernel) (by decide +kernel)
set_option maxRecDepth 100000 in
theorem ml_Sh_98 : Cond.methodLink R_Sh 98 y_Wk_unitParts ∈ TB := TB_t5 174 (by decide +kernel) (by decide +kernel)
set_option maxRecDepth 100000 in
theorem ml_Sh_95 : Cond.methodLink R_Sh 95 y_Jm_max_7cf53 ∈ TB := TB_t5 175 (by decide +kernel) (by decide +kernel)
set_option maxRecDepth 100000 in
theorem ml_Sh_84 : Cond.methodLink R_Sh 84 y_Jm_min_7cf53 ∈ TB := TB_t5 176 (by decide +kernel) (by decide +kernel)
set_option maxRecDepth 100000 in
theorem ml_Sh_55 : Cond.methodLink R_Sh 55 y_Sh_dealOut ∈ TB := TB_t5 177 (by decide +kernel) (by decide +kernel)
set_option maxRecDepth 100000 in
theorem ml_Sh_102 : Cond.methodLink R_Sh 102 y_Sh_leastOwner ∈ TB := TB_t5 181 (by decide +kernel) (by decide +kernel)
set_option maxRecDepth 100000 in
theorem ml_Sh_109 : Cond.methodLink R_Sh 109 y_Sh_canEnd ∈ TB := TB_t5 185 (by decide +kernel) (by decide +kernel)
set_option maxRecDepth 100000 in
theorem ml_Sh_106 : Cond.methodLink R_Sh 106 y_Sh_give ∈ TB := TB_t5 189 (by decide +kernel) (by decide +kernel)
set_option maxRecDepth 100000 in
theorem ml_W_348 : Cond.methodLink R_W 348 y_Wk_longestRide ∈ TB := TB_t5 201 (by decide +kernel) (by decide +kernel)
set_option maxRecDepth 100000 in
theorem ml_W_361 : Cond.methodLink R_W 361 y_Sf_present ∈ TB := TB_t5 218 (by decide +kernel) (by decide +kernel)
set_option maxRecDepth 100000 in
theorem ml_Sf_33 : Cond.methodLink R_Sf 33 y_Sf_lacks ∈ TB := TB_t5 222 (by decide +kernel) (by decide +kernel)
set_option maxRecDepth 100000 in
theorem ml_W_374 : Cond.methodLink R_W 374 y_W_count ∈ TB := TB_t5 237 (by decide +kernel) (by decide +kernel)
set_option maxRecDepth 100000 in
theorem ml_W_377 : Cond.methodLink R_W 377 y_Gr_mixInto ∈ TB := TB_t5 238 (by decide +kernel) (by decide +kernel)
set_option maxRecDepth 100000 in
theorem ml_W_381 : Cond.methodLink R_W 381 y_Cr_mixInto ∈ TB := TB_t6 3 (by decide +kernel) (by decide +kernel)
set_option maxRecDepth 100000 in
theorem ml_Cr_103 : Cond.methodLink R_Cr 103 y_Cr_lacks ∈ TB := TB_t6 7 (by decide +kernel) (by decide +kernel)
set_option maxRecDepth 100000 in
theorem ml_Cr_108 : Cond.methodLink R_Cr 108 y_Cr_tell ∈ TB := TB_t6 9 (by decide +kernel) (by decide +kernel)
set_option maxRecDepth 100000 in
theorem ml_Cr_112 : Cond.methodLink R_Cr 112 y_Wk_mixPlanInto ∈ TB := TB_t6 10 (by decide +kernel) (by decide +kernel)
set_option maxRecDepth 100000 in
theorem ml_Wk_119 : Cond.methodLink R_Wk 119 y_Wk_markOf ∈ TB := TB_t6 15 (by decide +kernel) (by decide +kernel)
set_option maxRecDepth 100000 in
theorem ml_W_382 : Cond.methodLink R_W 382 y_Sf_mixInto ∈ TB := TB_t6 16 (by decide +kernel) (by decide +kernel)
set_option maxRecDepth 100000 in
theorem ml_M_117 : Cond.methodLink R_M 117 y_M_in ∈ TB := TB_t6 204 (by decide +kernel) (by decide +kernel)
set_option maxRecDepth 100000 in
theorem ml_M_131 : Cond.methodLink R_M 131 y_M_isRow ∈ TB := TB_t6 223 (by decide +kernel) (by decide +kernel)
set_option maxRecDepth 100000 in
theorem ml_M_135 : Cond.methodLink R_M 135 y_M_meets ∈ TB := TB_t6 226 (by decide +kernel) (by decide +kernel)
set_option maxRecDepth 100000 in
theorem ml_M_139 : Cond.methodLink R_M 139 y_M_at ∈ TB := TB_t6 234 (by decide +kernel) (by decide +kernel)
set_option maxRecDepth 100000 in
theorem ml_M_143 : Cond.methodLink R_M 143 y_M_clear ∈ TB := TB_t7 14 (by decide +kernel) (by decide +kernel)
set_option maxRecDepth 100000 in
theorem ml_M_147 : Cond.methodLink R_M 147 y_M_join ∈ TB := TB_t7 18 (by decide +kernel) (by decide +kernel)
set_option maxRecDepth 100000 in
theorem ml_M_151 : Cond.methodLink R_M 151 y_M_isPost ∈ TB := TB_t7 30 (by decide +kernel) (by decide +kernel)
set_option maxRecDepth 100000 in
theorem ml_M_154 : Cond.methodLink R_M 154 y_M_walls ∈ TB := TB_t7 34 (by decide +kernel) (by decide +kernel)
set_option maxRecDepth 100000 in
theorem ml_M_159 : Cond.methodLink R_M 159 y_M_layFars ∈ TB := TB_t7 46 (by decide +kernel) (by decide +kernel)
set_option maxRecDepth 100000 in
theorem ml_M_168 : Cond.methodLink R_M 168 y_M_need ∈ TB := TB_t7 67 (by decide +kernel) (by decide +kernel)
set_option maxRecDepth 100000 in
theorem ml_M_165 : Cond.methodLink R_M 165 y_M_isWalker ∈ TB := TB_t7 71 (by decide +kernel) (by decide +kernel)
set_option maxRecDepth 100000 in
theorem ml_M_199 : Cond.methodLink R_M 199 y_M_toldOf ∈ TB := TB_t7 87 (by decide +kernel) (by decide +kernel)
set_option maxRecDepth 100000 in
theorem ml_M_190 : Cond.methodLink R_M 190 y_M_unitOf ∈ TB := TB_t7 91 (by decide +kernel) (by decide +kernel)
set_option maxRecDepth 100000 in
theorem ml_M_193 : Cond.methodLink R_M 193 y_M_goes ∈ TB := TB_t7 95 (by decide +kernel) (by decide +kernel)
set_option maxRecDepth 100000 in
theorem ml_M_184 : Cond.methodLink R_M 184 y_M_whyNot ∈ TB := TB_t7 99 (by decide +kernel) (by decide +kernel)
set_option maxRecDepth 100000 in
theorem ml_M_172 : Cond.methodLink R_M 172 y_M_post ∈ TB := TB_t7 103 (by decide +kernel) (by decide +kernel)
set_option maxRecDepth 100000 in
theorem ml_M_175 : Cond.methodLink R_M 175 y_M_pair ∈ TB := TB_t7 107 (by decide +kernel) (by decide +kernel)
set_option maxRecDepth 100000 in
theorem ml_M_178 : Cond.methodLink R_M 178 y_M_mostFuel ∈ TB := TB_t7 111 (by decide +kernel) (by decide +kernel)
set_option maxRecDepth 100000 in
theorem ml_M_196 : Cond.methodLink R_M 196 y_M_periodOf ∈ TB := TB_t7 115 (by decide +kernel) (by decide +kernel)
set_option maxRecDepth 100000 in
theorem ml_M_187 : Cond.methodLink R_M 187 y_M_rest ∈ TB := TB_t7 119 (by decide +kernel) (by decide +kernel)
set_option maxRecDepth 100000 in
theorem ml_M_212 : Cond.methodLink R_M 212 y_M_find ∈ TB := TB_t7 148 (by decide +kernel) (by decide +kernel)
set_option maxRecDepth 100000 in
theorem ml_M_223 : Cond.methodLink R_M 223 y_M_layJoint ∈ TB := TB_t7 156 (by decide +kernel) (by decide +kernel)
set_option maxRecDepth 100000 in
theorem ml_M_124 : Cond.methodLink R_M 124 y_M_gcd ∈ TB := TB_t7 161 (by decide +kernel) (by decide +kernel)
set_option maxRecDepth 100000 in
theorem ml_M_231 : Cond.methodLink R_M 231 y_M_laySeen ∈ TB := TB_t7 168 (by decide +kernel) (by decide +kernel)
set_option maxRecDepth 100000 in
theorem ml_M_227 : Cond.methodLink R_M 227 y_M_lookOut ∈ TB := TB_t7 172 (by decide +kernel) (by decide +kernel)
set_option maxRecDepth 100000 in
theorem ml_M_220 : Cond.methodLink R_M 220 y_M_viewFrom ∈ TB := TB_t7 176 (by decide +kernel) (by decide +kernel)
set_option maxRecDepth 100000 in
theorem ml_M_234 : Cond.methodLink R_M 234 y_M_tells ∈ TB := TB_t7 180 (by decide +kernel) (by decide +kernel)
set_option maxRecDepth 100000 in
theorem ml_M_253 : Cond.methodLink R_M 253 y_M_layRows ∈ TB := TB_t7 188 (by decide +kernel) (by decide +kernel)
set_option maxRecDepth 100000 in
theorem ml_M_246 : Cond.methodLink R_M 246 y_M_isSeen ∈ TB := TB_t7 192 (by decide +kernel) (by decide +kernel)
set_option maxRecDepth 100000 in
theorem ml_M_250 : Cond.methodLink R_M 250 y_M_closeRow ∈ TB := TB_t7 196 (by decide +kernel) (by decide +kernel)
set_option maxRecDepth 100000 in
theorem ml_M_262 : Cond.methodLink R_M 262 y_M_layWorst ∈ TB := TB_t7 208 (by decide +kernel) (by decide +kernel)
set_option maxRecDepth 100000 in
theorem ml_M_265 : Cond.methodLink R_M 265 y_M_fraction ∈ TB := TB_t7 216 (by decide +kernel) (by decide +kernel)
set_option maxRecDepth 100000 in
theorem ml_M_269 : Cond.methodLink R_M 269 y_M_isNeed ∈ TB := TB_t7 224 (by decide +kernel) (by decide +kernel)
set_option maxRecDepth 100000 in
theorem ml_M_272 : Cond.methodLink R_M 272 y_M_bitsOf ∈ TB := TB_t7 239 (by decide +kernel) (by decide +kernel)
set_option maxRecDepth 100000 in
theorem ml_M_311 : Cond.methodLink R_M 311 y_M_needTwo ∈ TB := TB_t8 6 (by decide +kernel) (by decide +kernel)
set_option maxRecDepth 100000 in
theorem ml_M_308 : Cond.methodLink R_M 308 y_M_areShort ∈ TB := TB_t8 10 (by decide +kernel) (by decide +kernel)
set_option maxRecDepth 100000 in
theorem ml_M_293 : Cond.methodLink R_M 293 y_M_jointOf ∈ TB := TB_t8 14 (by decide +kernel) (by decide +kernel)
set_option maxRecDepth 100000 in
theorem ml_M_315 : Cond.methodLink R_M 315 y_M_meetFrom ∈ TB := TB_t8 19 (by decide +kernel) (by decide +kernel)
set_option maxRecDepth 100000 in
theorem ml_M_299 : Cond.methodLink R_M 299 y_M_areTogether ∈ TB := TB_t8 23 (by decide +kernel) (by decide +kernel)
set_option maxRecDepth 100000 in
theorem ml_M_302 : Cond.methodLink R_M 302 y_M_walk ∈ TB := TB_t8 27 (by decide +kernel) (by decide +kernel)
set_option maxRecDepth 100000 in
theorem ml_M_319 : Cond.methodLink R_M 319 y_M_needOne ∈ TB := TB_t8 36 (by decide +kernel) (by decide +kernel)
set_option maxRecDepth 100000 in
theorem ml_M_322 : Cond.methodLink R_M 322 y_M_layWord ∈ TB := TB_t8 40 (by decide +kernel) (by decide +kernel)
set_option maxRecDepth 100000 in
theorem ml_M_334 : Cond.methodLink R_M 334 y_M_layRound ∈ TB := TB_t8 52 (by decide +kernel) (by decide +kernel)
set_option maxRecDepth 100000 in
theorem ml_M_328 : Cond.methodLink R_M 328 y_M_hop ∈ TB := TB_t8 56 (by decide +kernel) (by decide +kernel)
set_option maxRecDepth 100000 in
theorem ml_M_331 : Cond.methodLink R_M 331 y_M_restOf ∈ TB := TB_t8 60 (by decide +kernel) (by decide +kernel)
set_option maxRecDepth 100000 in
theorem ml_M_337 : Cond.methodLink R_M 337 y_M_roundLength ∈ TB := TB_t8 64 (by decide +kernel) (by decide +kernel)
set_option maxRecDepth 100000 in
theorem ml_M_347 : Cond.methodLink R_M 347 y_M_part ∈ TB := TB_t8 76 (by decide +kernel) (by decide +kernel)
set_option maxRecDepth 100000 in
theorem ml_M_351 : Cond.methodLink R_M 351 y_M_tellsCount ∈ TB := TB_t8 92 (by decide +kernel) (by decide +kernel)
set_option maxRecDepth 100000 in
theorem mn_W_9 : (R_W, 9, y_Ta_init, R_W) ∈ NST := List.mem_of_getElem? (i := 0) rfl
set_option maxRecDepth 100000 in
theorem mn_Cr_35 : (R_Cr, 35, y_Wk_init, R_W) ∈ NST := List.mem_of_getElem? (i := 1) rfl
set_option maxRecDepth 100000 in
theorem mn_Cr_72 : (R_Cr, 72, y_W_gcd, R_W) ∈ NST := List.mem_of_getElem? (i := 2) rfl
set_option maxRecDepth 100000 in
theorem mn_Ta_29 : (R_Ta, 29, y_W_gcd, R_W) ∈ NST := List.mem_of_getElem? (i := 3) rfl
set_option maxRecDepth 100000 in
theorem ini_W : Cond.initialized R_W ∈ TB := TB_t1 1 (by decide +kernel) (by decide +kernel)
set_option maxRecDepth 100000 in
theorem ini_Ta : Cond.initialized R_Ta ∈ TB := TB_t1 2 (by decide +kernel) (by decide +kernel)
set_option maxRecDepth 100000 in
theorem ini_Sf : Cond.initialized R_Sf ∈ TB := TB_t1 3 (by decide +kernel) (by decide +kernel)
set_option maxRecDepth 100000 in
theorem ini_Gr : Cond.initialized R_Gr ∈ TB := TB_t1 4 (by decide +kernel) (by decide +kernel)
set_option maxRecDepth 100000 in
theorem ini_Cr : Cond.initialized R_Cr ∈ TB := TB_t1 5 (by decide +kernel) (by decide +kernel)
set_option maxRecDepth 100000 in
theorem ini_Wk : Cond.initialized R_Wk ∈ TB := TB_t1 6 (by decide +kernel) (by decide +kernel)
set_option maxRecDepth 100000 in
theorem ini_Wa : Cond.initialized R_Wa ∈ TB := TB_t1 7 (by decide +kernel) (by decide +kernel)
set_option maxRecDepth 100000 in
theorem ini_Me : Cond.initialized R_Me ∈ TB := TB_t1 8 (by decide +kernel) (by decide +kernel)
set_option maxRecDepth 100000 in
theorem ini_St : Cond.initialized R_St ∈ TB := TB_t1 9 (by decide +kernel) (by decide +kernel)
set_option maxRecDepth 100000 in
theorem ini_To : Cond.initialized R_To ∈ TB := TB_t1 10 (by decide +kernel) (by decide +kernel)
set_option maxRecDepth 100000 in
theorem ini_Sh : Cond.initialized R_Sh ∈ TB := TB_t1 11 (by decide +kernel) (by decide +kernel)
set_option maxRecDepth 100000 in
theorem ini_M : Cond.initialized R_M ∈ TB := TB_t1 12 (by decide +kernel) (by decide +kernel)
set_option maxRecDepth 100000 in
theorem ini_Js : Cond.initialized R_Js ∈ TB := TB_t1 13 (by decide +kernel) (by decide +kernel)
set_option maxRecDepth 100000 in
theorem ini_Jm : Cond.initialized R_Jm ∈ TB := TB_t1 14 (by decide +kernel) (by decide +kernel)
set_option maxRecDepth 100000 in
theorem ini_Ji : Cond.initialized R_Ji ∈ TB := TB_t1 15 (by decide +kernel) (by decide +kernel)
set_option maxRecDepth 100000 in
theorem ck_Gr_56 : Cond.constant R_Gr 56 (1000000) ∈ TB := TB_t3 91 (by decide +kernel) (by decide +kernel)
set_option maxRecDepth 100000 in
theorem ck_W_383 : Cond.constant R_W 383 (100000) ∈ TB := TB_t4 22 (by decide +kernel) (by decide +kernel)
set_option maxRecDepth 100000 in
theorem ck_Ji_265 : Cond.constant R_Ji 265 (1431655765) ∈ TB := TB_t4 66 (by decide +kernel) (by decide +kernel)
set_option maxRecDepth 100000 in
theorem ck_Ji_266 : Cond.constant R_Ji 266 (858993459) ∈ TB := TB_t4 67 (by decide +kernel) (by decide +kernel)
set_option maxRecDepth 100000 in
theorem ck_Ji_267 : Cond.constant R_Ji 267 (252645135) ∈ TB := TB_t4 68 (by decide +kernel) (by decide +kernel)
set_option maxRecDepth 100000 in
theorem ck_Ji_264 : Cond.constant R_Ji 264 (65536) ∈ TB := TB_t4 162 (by decide +kernel) (by decide +kernel)
set_option maxRecDepth 100000 in
theorem ck_To_73 : Cond.constant R_To 73 (1000000) ∈ TB := TB_t5 122 (by decide +kernel) (by decide +kernel)
set_option maxRecDepth 100000 in
theorem ck_Sh_54 : Cond.constant R_Sh 54 (1000000) ∈ TB := TB_t5 164 (by decide +kernel) (by decide +kernel)
set_option maxRecDepth 100000 in
theorem ck_M_158 : Cond.constant R_M 158 (1000000) ∈ TB := TB_t7 50 (by decide +kernel) (by decide +kernel)
set_option maxRecDepth 100000 in
theorem ck_M_211 : Cond.constant R_M 211 (100000) ∈ TB := TB_t7 147 (by decide +kernel) (by decide +kernel)
set_option maxRecDepth 100000 in
theorem cl_W_310 : Cond.constantLong R_W 310 (27720) ∈ TB := TB_t5 5 (by decide +kernel) (by decide +kernel)
set_option maxRecDepth 100000 in
theorem cl_Me_41 : Cond.constantLong R_Me 41 (27720) ∈ TB := TB_t5 11 (by decide +kernel) (by decide +kernel)
set_option maxRecDepth 100000 in
theorem cl_St_77 : Cond.constantLong R_St 77 (-1099511627776) ∈ TB := TB_t5 20 (by decide +kernel) (by decide +kernel)
set_option maxRecDepth 100000 in
theorem cl_St_79 : Cond.constantLong R_St 79 (1099511627776) ∈ TB := TB_t5 21 (by decide +kernel) (by decide +kernel)
set_option maxRecDepth 100000 in
theorem cl_St_58 : Cond.constantLong R_St 58 (27720) ∈ TB := TB_t5 22 (by decide +kernel) (by decide +kernel)
set_option maxRecDepth 100000 in
theorem cl_Me_57 : Cond.constantLong R_Me 57 (-1) ∈ TB := TB_t5 35 (by decide +kernel) (by decide +kernel)
set_option maxRecDepth 100000 in
theorem cl_Me_69 : Cond.constantLong R_Me 69 (1099511627776) ∈ TB := TB_t5 51 (by decide +kernel) (by decide +kernel)
set_option maxRecDepth 100000 in
theorem cl_W_396 : Cond.constantLong R_W 396 (-1) ∈ TB := TB_t5 60 (by decide +kernel) (by decide +kernel)
set_option maxRecDepth 100000 in
theorem cl_W_370 : Cond.constantLong R_W 370 (17) ∈ TB := TB_t5 235 (by decide +kernel) (by decide +kernel)
set_option maxRecDepth 100000 in
theorem cl_W_372 : Cond.constantLong R_W 372 (31) ∈ TB := TB_t5 236 (by decide +kernel) (by decide +kernel)
set_option maxRecDepth 100000 in
theorem cl_Gr_64 : Cond.constantLong R_Gr 64 (31) ∈ TB := TB_t6 2 (by decide +kernel) (by decide +kernel)
set_option maxRecDepth 100000 in
theorem cl_Cr_106 : Cond.constantLong R_Cr 106 (31) ∈ TB := TB_t6 8 (by decide +kernel) (by decide +kernel)
set_option maxRecDepth 100000 in
theorem cl_Wk_117 : Cond.constantLong R_Wk 117 (31) ∈ TB := TB_t6 14 (by decide +kernel) (by decide +kernel)
set_option maxRecDepth 100000 in
theorem cl_Sf_37 : Cond.constantLong R_Sf 37 (31) ∈ TB := TB_t6 20 (by decide +kernel) (by decide +kernel)
set_option maxRecDepth 100000 in
theorem cl_M_215 : Cond.constantLong R_M 215 (14400) ∈ TB := TB_t7 160 (by decide +kernel) (by decide +kernel)
set_option maxRecDepth 100000 in
theorem cl_M_297 : Cond.constantLong R_M 297 (27720) ∈ TB := TB_t8 18 (by decide +kernel) (by decide +kernel)
set_option maxRecDepth 100000 in
theorem cl_M_306 : Cond.constantLong R_M 306 (-1) ∈ TB := TB_t8 31 (by decide +kernel) (by decide +kernel)
set_option maxRecDepth 100000 in
theorem cl_M_354 : Cond.constantLong R_M 354 (17) ∈ TB := TB_t8 100 (by decide +kernel) (by decide +kernel)
set_option maxRecDepth 100000 in
theorem cl_M_356 : Cond.constantLong R_M 356 (31) ∈ TB := TB_t8 101 (by decide +kernel) (by decide +kernel)
set_option maxRecDepth 100000 in
theorem mv_Cr_has : MthV R_Cr y_Cr_has c_Cr_has 2 (some .boolean) 1 := ⟨TB_t3 137 (by decide +kernel) (by decide +kernel), TB_t3 138 (by decide +kernel) (by decide +kernel), ini_Cr, TB_t3 139 (by decide +kernel) (by decide +kernel), by decide +kernel⟩
set_option maxRecDepth 100000 in
theorem mv_Cr_lacks : MthV R_Cr y_Cr_lacks c_Cr_lacks 2 (some .boolean) 1 := ⟨TB_t3 141 (by decide +kernel) (by decide +kernel), TB_t3 142 (by decide +kernel) (by decide +kernel), ini_Cr, TB_t3 143 (by decide +kernel) (by decide +kernel), by decide +kernel⟩
set_option maxRecDepth 100000 in
theorem mv_Cr_get : MthV R_Cr y_Cr_get c_Cr_get 2 (some (.object "WallWalkers$Walker")) 1 := ⟨TB_t2 63 (by decide +kernel) (by decide +kernel), TB_t2 64 (by decide +kernel) (by decide +kernel), ini_Cr, TB_t2 65 (by decide +kernel) (by decide +kernel), by decide +kernel⟩
set_option maxRecDepth 100000 in
theorem mv_Cr_changing : MthV R_Cr y_Cr_changing c_Cr_changing 2 (some (.object "WallWalkers$Walker")) 1 := ⟨TB_t3 129 (by decide +kernel) (by decide +kernel), TB_t3 130 (by decide +kernel) (by decide +kernel), ini_Cr, TB_t3 131 (by decide +kernel) (by decide +kernel), by decide +kernel⟩
set_option maxRecDepth 100000 in
theorem mv_Cr_add : MthV R_Cr y_Cr_add c_Cr_add 6 (some .int) 3 := ⟨TB_t3 125 (by decide +kernel) (by decide +kernel), TB_t3 126 (by decide +kernel) (by decide +kernel), ini_Cr, TB_t3 127 (by decide +kernel) (by decide +kernel), by decide +kernel⟩
set_option maxRecDepth 100000 in
theorem mv_Cr_refresh : MthV R_Cr y_Cr_refresh c_Cr_refresh 2 (none) 0 := ⟨TB_t3 158 (by decide +kernel) (by decide +kernel), TB_t3 159 (by decide +kernel) (by decide +kernel), ini_Cr, TB_t3 160 (by decide +kernel) (by decide +kernel), by decide +kernel⟩
set_option maxRecDepth 100000 in
theorem mv_Cr_goes : MthV R_Cr y_Cr_goes c_Cr_goes 2 (some .boolean) 1 := ⟨TB_t3 210 (by decide +kernel) (by decide +kernel), TB_t3 211 (by decide +kernel) (by decide +kernel), ini_Cr, TB_t3 212 (by decide +kernel) (by decide +kernel), by decide +kernel⟩
set_option maxRecDepth 100000 in
theorem mv_Cr_jointOf : MthV R_Cr y_Cr_jointOf c_Cr_jointOf 6 (some .int) 1 := ⟨TB_t4 44 (by decide +kernel) (by decide +kernel), TB_t4 45 (by decide +kernel) (by decide +kernel), ini_Cr, TB_t4 46 (by decide +kernel) (by decide +kernel), by decide +kernel⟩
set_option maxRecDepth 100000 in
theorem mv_Cr_isAnyPairSpent : MthV R_Cr y_Cr_isAnyPairSpent c_Cr_isAnyPairSpent 4 (some .boolean) 0 := ⟨TB_t5 66 (by decide +kernel) (by decide +kernel), TB_t5 67 (by decide +kernel) (by decide +kernel), ini_Cr, TB_t5 68 (by decide +kernel) (by decide +kernel), by decide +kernel⟩
set_option maxRecDepth 100000 in
theorem mv_Cr_everSeen : MthV R_Cr y_Cr_everSeen c_Cr_everSeen 4 (some .int) 1 := ⟨TB_t4 84 (by decide +kernel) (by decide +kernel), TB_t4 85 (by decide +kernel) (by decide +kernel), ini_Cr, TB_t4 86 (by decide +kernel) (by decide +kernel), by decide +kernel⟩
set_option maxRecDepth 100000 in
theorem mv_Cr_seenAt : MthV R_Cr y_Cr_seenAt c_Cr_seenAt 4 (some .int) 1 := ⟨TB_t4 56 (by decide +kernel) (by decide +kernel), TB_t4 57 (by decide +kernel) (by decide +kernel), ini_Cr, TB_t4 58 (by decide +kernel) (by decide +kernel), by decide +kernel⟩
set_option maxRecDepth 100000 in
theorem mv_Cr_tell : MthV R_Cr y_Cr_tell c_Cr_tell 4 (some .int) 2 := ⟨TB_t3 205 (by decide +kernel) (by decide +kernel), TB_t3 206 (by decide +kernel) (by decide +kernel), ini_Cr, TB_t3 207 (by decide +kernel) (by decide +kernel), by decide +kernel⟩
set_option maxRecDepth 100000 in
theorem mv_Cr_mixInto : MthV R_Cr y_Cr_mixInto c_Cr_mixInto 7 (some .long) 1 := ⟨TB_t6 4 (by decide +kernel) (by decide +kernel), TB_t6 5 (by decide +kernel) (by decide +kernel), ini_Cr, TB_t6 6 (by decide +kernel) (by decide +kernel), by decide +kernel⟩
set_option maxRecDepth 100000 in
theorem mv_Gr_begin : MthV R_Gr y_Gr_begin c_Gr_begin 4 (none) 2 := ⟨TB_t3 43 (by decide +kernel) (by decide +kernel), TB_t3 44 (by decide +kernel) (by decide +kernel), ini_Gr, TB_t3 45 (by decide +kernel) (by decide +kernel), by decide +kernel⟩
set_option maxRecDepth 100000 in
theorem mv_Gr_wallsChanged : MthV R_Gr y_Gr_wallsChanged c_Gr_wallsChanged 1 (none) 0 := ⟨TB_t3 48 (by decide +kernel) (by decide +kernel), TB_pr (List.mem_of_getElem? (i := 1) (by decide +kernel)) (by decide +kernel), ini_Gr, TB_t3 49 (by decide +kernel) (by decide +kernel), by decide +kernel⟩
set_option maxRecDepth 100000 in
theorem mv_Gr_has : MthV R_Gr y_Gr_has c_Gr_has 2 (some .boolean) 1 := ⟨TB_t3 67 (by decide +kernel) (by decide +kernel), TB_t3 68 (by decide +kernel) (by decide +kernel), ini_Gr, TB_t3 69 (by decide +kernel) (by decide +kernel), by decide +kernel⟩
set_option maxRecDepth 100000 in
theorem mv_Gr_lengthOf : MthV R_Gr y_Gr_lengthOf c_Gr_lengthOf 3 (some .int) 2 := ⟨TB_t3 71 (by decide +kernel) (by decide +kernel), TB_t3 72 (by decide +kernel) (by decide +kernel), ini_Gr, TB_t3 73 (by decide +kernel) (by decide +kernel), by decide +kernel⟩
set_option maxRecDepth 100000 in
theorem mv_Gr_setLength : MthV R_Gr y_Gr_setLength c_Gr_setLength 4 (none) 3 := ⟨TB_t3 56 (by decide +kernel) (by decide +kernel), TB_pr (List.mem_of_getElem? (i := 2) (by decide +kernel)) (by decide +kernel), ini_Gr, TB_t3 57 (by decide +kernel) (by decide +kernel), by decide +kernel⟩
set_option maxRecDepth 100000 in
theorem mv_Gr_build : MthV R_Gr y_Gr_build c_Gr_build 4 (none) 3 := ⟨TB_t3 51 (by decide +kernel) (by decide +kernel), TB_t3 52 (by decide +kernel) (by decide +kernel), ini_Gr, TB_t3 53 (by decide +kernel) (by decide +kernel), by decide +kernel⟩
set_option maxRecDepth 100000 in
theorem mv_Gr_turnBroken : MthV R_Gr y_Gr_turnBroken c_Gr_turnBroken 4 (none) 2 := ⟨TB_t3 79 (by decide +kernel) (by decide +kernel), TB_t3 80 (by decide +kernel) (by decide +kernel), ini_Gr, TB_t3 81 (by decide +kernel) (by decide +kernel), by decide +kernel⟩
set_option maxRecDepth 100000 in
theorem mv_Gr_changeWorth : MthV R_Gr y_Gr_changeWorth c_Gr_changeWorth 4 (some .int) 2 := ⟨TB_t3 105 (by decide +kernel) (by decide +kernel), TB_t3 106 (by decide +kernel) (by decide +kernel), ini_Gr, TB_t3 107 (by decide +kernel) (by decide +kernel), by decide +kernel⟩
set_option maxRecDepth 100000 in
theorem mv_Gr_changeBase : MthV R_Gr y_Gr_changeBase c_Gr_changeBase 4 (some .boolean) 2 := ⟨TB_t3 113 (by decide +kernel) (by decide +kernel), TB_t3 114 (by decide +kernel) (by decide +kernel), ini_Gr, TB_t3 115 (by decide +kernel) (by decide +kernel), by decide +kernel⟩
set_option maxRecDepth 100000 in
theorem mv_Gr_worthOf : MthV R_Gr y_Gr_worthOf c_Gr_worthOf 2 (some .int) 1 := ⟨TB_t4 169 (by decide +kernel) (by decide +kernel), TB_t4 170 (by decide +kernel) (by decide +kernel), ini_Gr, TB_t4 171 (by decide +kernel) (by decide +kernel), by decide +kernel⟩
set_option maxRecDepth 100000 in
theorem mv_Gr_isBase : MthV R_Gr y_Gr_isBase c_Gr_isBase 2 (some .boolean) 1 := ⟨TB_t3 186 (by decide +kernel) (by decide +kernel), TB_t3 187 (by decide +kernel) (by decide +kernel), ini_Gr, TB_t3 188 (by decide +kernel) (by decide +kernel), by decide +kernel⟩
set_option maxRecDepth 100000 in
theorem mv_Gr_worthy : MthV R_Gr y_Gr_worthy c_Gr_worthy 3 (some .int) 0 := ⟨TB_t4 152 (by decide +kernel) (by decide +kernel), TB_t4 153 (by decide +kernel) (by decide +kernel), ini_Gr, TB_t4 154 (by decide +kernel) (by decide +kernel), by decide +kernel⟩
set_option maxRecDepth 100000 in
theorem mv_Gr_farOf : MthV R_Gr y_Gr_farOf c_Gr_farOf 4 (some .int) 2 := ⟨TB_t3 97 (by decide +kernel) (by decide +kernel), TB_t3 98 (by decide +kernel) (by decide +kernel), ini_Gr, TB_t3 99 (by decide +kernel) (by decide +kernel), by decide +kernel⟩
set_option maxRecDepth 100000 in
theorem mv_Gr_measure : MthV R_Gr y_Gr_measure c_Gr_measure 4 (none) 0 := ⟨TB_t3 88 (by decide +kernel) (by decide +kernel), TB_t3 89 (by decide +kernel) (by decide +kernel), ini_Gr, TB_t3 90 (by decide +kernel) (by decide +kernel), by decide +kernel⟩
set_option maxRecDepth 100000 in
theorem mv_Gr_shortenBy : MthV R_Gr y_Gr_shortenBy c_Gr_shortenBy 6 (none) 2 := ⟨TB_t3 94 (by decide +kernel) (by decide +kernel), TB_pr (List.mem_of_getElem? (i := 3) (by decide +kernel)) (by decide +kernel), ini_Gr, TB_t3 95 (by decide +kernel) (by decide +kernel), by decide +kernel⟩
set_option maxRecDepth 100000 in
theorem mv_Gr_within : MthV R_Gr y_Gr_within c_Gr_within 6 (some .int) 2 := ⟨TB_t3 168 (by decide +kernel) (by decide +kernel), TB_t3 169 (by decide +kernel) (by decide +kernel), ini_Gr, TB_t3 170 (by decide +kernel) (by decide +kernel), by decide +kernel⟩
set_option maxRecDepth 100000 in
theorem mv_Gr_mixInto : MthV R_Gr y_Gr_mixInto c_Gr_mixInto 7 (some .long) 1 := ⟨TB_t5 239 (by decide +kernel) (by decide +kernel), TB_t6 0 (by decide +kernel) (by decide +kernel), ini_Gr, TB_t6 1 (by decide +kernel) (by decide +kernel), by decide +kernel⟩
set_option maxRecDepth 100000 in
theorem mv_Me_firstOf : MthV R_Me y_Me_firstOf c_Me_firstOf 15 (some .long) 3 := ⟨TB_t5 7 (by decide +kernel) (by decide +kernel), TB_t5 8 (by decide +kernel) (by decide +kernel), ini_Me, TB_t5 9 (by decide +kernel) (by decide +kernel), by decide +kernel⟩
set_option maxRecDepth 100000 in
theorem mv_Me_together : MthV R_Me y_Me_together c_Me_together 7 (some .long) 1 := ⟨TB_t5 38 (by decide +kernel) (by decide +kernel), TB_pr (List.mem_of_getElem? (i := 25) (by decide +kernel)) (by decide +kernel), ini_Me, TB_t5 39 (by decide +kernel) (by decide +kernel), by decide +kernel⟩
set_option maxRecDepth 100000 in
theorem mv_Me_sameWay : MthV R_Me y_Me_sameWay c_Me_sameWay 9 (some .long) 2 := ⟨TB_t5 45 (by decide +kernel) (by decide +kernel), TB_pr (List.mem_of_getElem? (i := 26) (by decide +kernel)) (by decide +kernel), ini_Me, TB_t5 46 (by decide +kernel) (by decide +kernel), by decide +kernel⟩
set_option maxRecDepth 100000 in
theorem mv_Me_towards : MthV R_Me y_Me_towards c_Me_towards 11 (some .long) 2 := ⟨TB_t5 49 (by decide +kernel) (by decide +kernel), TB_pr (List.mem_of_getElem? (i := 27) (by decide +kernel)) (by decide +kernel), ini_Me, TB_t5 50 (by decide +kernel) (by decide +kernel), by decide +kernel⟩
set_option maxRecDepth 100000 in
theorem mv_Me_pass : MthV R_Me y_Me_pass c_Me_pass 9 (some .int) 3 := ⟨TB_t5 71 (by decide +kernel) (by decide +kernel), TB_t5 72 (by decide +kernel) (by decide +kernel), ini_Me, TB_t5 73 (by decide +kernel) (by decide +kernel), by decide +kernel⟩
set_option maxRecDepth 100000 in
theorem mv_Me_earliest : MthV R_Me y_Me_earliest c_Me_earliest 4 (some .int) 1 := ⟨TB_t5 76 (by decide +kernel) (by decide +kernel), TB_pr (List.mem_of_getElem? (i := 29) (by decide +kernel)) (by decide +kernel), ini_Me, TB_t5 77 (by decide +kernel) (by decide +kernel), by decide +kernel⟩
set_option maxRecDepth 100000 in
theorem mv_Me_tellOthers : MthV R_Me y_Me_tellOthers c_Me_tellOthers 6 (none) 2 := ⟨TB_t5 80 (by decide +kernel) (by decide +kernel), TB_pr (List.mem_of_getElem? (i := 30) (by decide +kernel)) (by decide +kernel), ini_Me, TB_t5 81 (by decide +kernel) (by decide +kernel), by decide +kernel⟩
set_option maxRecDepth 100000 in
theorem mv_Me_wordAt : MthV R_Me y_Me_wordAt c_Me_wordAt 2 (some .long) 1 := ⟨TB_t5 84 (by decide +kernel) (by decide +kernel), TB_t5 85 (by decide +kernel) (by decide +kernel), ini_Me, TB_t5 86 (by decide +kernel) (by decide +kernel), by decide +kernel⟩
set_option maxRecDepth 100000 in
theorem mv_Sh_forget : MthV R_Sh y_Sh_forget c_Sh_forget 2 (none) 0 := ⟨TB_t2 155 (by decide +kernel) (by decide +kernel), TB_pr (List.mem_of_getElem? (i := 0) (by decide +kernel)) (by decide +kernel), ini_Sh, TB_t2 156 (by decide +kernel) (by decide +kernel), by decide +kernel⟩
set_option maxRecDepth 100000 in
theorem mv_Sh_settle : MthV R_Sh y_Sh_settle c_Sh_settle 4 (some .int) 0 := ⟨TB_t5 149 (by decide +kernel) (by decide +kernel), TB_t5 150 (by decide +kernel) (by decide +kernel), ini_Sh, TB_t5 151 (by decide +kernel) (by decide +kernel), by decide +kernel⟩
set_option maxRecDepth 100000 in
theorem mv_Sh_place : MthS y_Sh_place c_Sh_place 2 (some .int) 2 := ⟨TB_t5 158 (by decide +kernel) (by decide +kernel), ini_Sh, TB_t5 159 (by decide +kernel) (by decide +kernel), by decide +kernel⟩
set_option maxRecDepth 100000 in
theorem mv_Sh_gatherSharers : MthV R_Sh y_Sh_gatherSharers c_Sh_gatherSharers 3 (none) 0 := ⟨TB_t5 154 (by decide +kernel) (by decide +kernel), TB_pr (List.mem_of_getElem? (i := 39) (by decide +kernel)) (by decide +kernel), ini_Sh, TB_t5 155 (by decide +kernel) (by decide +kernel), by decide +kernel⟩
set_option maxRecDepth 100000 in
theorem mv_Sh_leastOf : MthV R_Sh y_Sh_leastOf c_Sh_leastOf 5 (some .int) 2 := ⟨TB_t5 162 (by decide +kernel) (by decide +kernel), TB_pr (List.mem_of_getElem? (i := 40) (by decide +kernel)) (by decide +kernel), ini_Sh, TB_t5 163 (by decide +kernel) (by decide +kernel), by decide +kernel⟩
set_option maxRecDepth 100000 in
theorem mv_Sh_leastWith : MthV R_Sh y_Sh_leastWith c_Sh_leastWith 9 (some .int) 3 := ⟨TB_t5 167 (by decide +kernel) (by decide +kernel), TB_pr (List.mem_of_getElem? (i := 41) (by decide +kernel)) (by decide +kernel), ini_Sh, TB_t5 168 (by decide +kernel) (by decide +kernel), by decide +kernel⟩
set_option maxRecDepth 100000 in
theorem mv_Sh_timeOf : MthV R_Sh y_Sh_timeOf c_Sh_timeOf 3 (some .int) 2 := ⟨TB_t5 172 (by decide +kernel) (by decide +kernel), TB_pr (List.mem_of_getElem? (i := 42) (by decide +kernel)) (by decide +kernel), ini_Sh, TB_t5 173 (by decide +kernel) (by decide +kernel), by decide +kernel⟩
set_option maxRecDepth 100000 in
theorem mv_Sh_dealOut : MthV R_Sh y_Sh_dealOut c_Sh_dealOut 10 (none) 2 := ⟨TB_t5 179 (by decide +kernel) (by decide +kernel), TB_pr (List.mem_of_getElem? (i := 43) (by decide +kernel)) (by decide +kernel), ini_Sh, TB_t5 180 (by decide +kernel) (by decide +kernel), by decide +kernel⟩
set_option maxRecDepth 100000 in
theorem mv_Sh_give : MthV R_Sh y_Sh_give c_Sh_give 3 (none) 2 := ⟨TB_t5 191 (by decide +kernel) (by decide +kernel), TB_pr (List.mem_of_getElem? (i := 46) (by decide +kernel)) (by decide +kernel), ini_Sh, TB_t5 192 (by decide +kernel) (by decide +kernel), by decide +kernel⟩
set_option maxRecDepth 100000 in
theorem mv_Sh_leastOwner : MthV R_Sh y_Sh_leastOwner c_Sh_leastOwner 9 (some .int) 5 := ⟨TB_t5 183 (by decide +kernel) (by decide +kernel), TB_pr (List.mem_of_getElem? (i := 44) (by decide +kernel)) (by decide +kernel), ini_Sh, TB_t5 184 (by decide +kernel) (by decide +kernel), by decide +kernel⟩
set_option maxRecDepth 100000 in
theorem mv_Sh_canEnd : MthV R_Sh y_Sh_canEnd c_Sh_canEnd 9 (some .boolean) 5 := ⟨TB_t5 187 (by decide +kernel) (by decide +kernel), TB_pr (List.mem_of_getElem? (i := 45) (by decide +kernel)) (by decide +kernel), ini_Sh, TB_t5 188 (by decide +kernel) (by decide +kernel), by decide +kernel⟩
set_option maxRecDepth 100000 in
theorem mv_Sf_lacks : MthV R_Sf y_Sf_lacks c_Sf_lacks 2 (some .boolean) 1 := ⟨TB_t2 230 (by decide +kernel) (by decide +kernel), TB_t2 231 (by decide +kernel) (by decide +kernel), ini_Sf, TB_t2 232 (by decide +kernel) (by decide +kernel), by decide +kernel⟩
set_option maxRecDepth 100000 in
theorem mv_Sf_sizeOf : MthV R_Sf y_Sf_sizeOf c_Sf_sizeOf 2 (some .int) 1 := ⟨TB_t2 234 (by decide +kernel) (by decide +kernel), TB_t2 235 (by decide +kernel) (by decide +kernel), ini_Sf, TB_t2 236 (by decide +kernel) (by decide +kernel), by decide +kernel⟩
set_option maxRecDepth 100000 in
theorem mv_Sf_byteAt : MthV R_Sf y_Sf_byteAt c_Sf_byteAt 3 (some .int) 2 := ⟨TB_t2 238 (by decide +kernel) (by decide +kernel), TB_t2 239 (by decide +kernel) (by decide +kernel), ini_Sf, TB_t3 0 (by decide +kernel) (by decide +kernel), by decide +kernel⟩
set_option maxRecDepth 100000 in
theorem mv_Sf_write : MthV R_Sf y_Sf_write c_Sf_write 4 (none) 3 := ⟨TB_t2 222 (by decide +kernel) (by decide +kernel), TB_t2 223 (by decide +kernel) (by decide +kernel), ini_Sf, TB_t2 224 (by decide +kernel) (by decide +kernel), by decide +kernel⟩
set_option maxRecDepth 100000 in
theorem mv_Sf_put : MthV R_Sf y_Sf_put c_Sf_put 4 (none) 2 := ⟨TB_t2 218 (by decide +kernel) (by decide +kernel), TB_t2 219 (by decide +kernel) (by decide +kernel), ini_Sf, TB_t2 220 (by decide +kernel) (by decide +kernel), by decide +kernel⟩
set_option maxRecDepth 100000 in
theorem mv_Sf_remove : MthV R_Sf y_Sf_remove c_Sf_remove 2 (none) 1 := ⟨TB_t3 7 (by decide +kernel) (by decide +kernel), TB_t3 8 (by decide +kernel) (by decide +kernel), ini_Sf, TB_t3 9 (by decide +kernel) (by decide +kernel), by decide +kernel⟩
set_option maxRecDepth 100000 in
theorem mv_Sf_holds : MthV R_Sf y_Sf_holds c_Sf_holds 4 (some .boolean) 3 := ⟨TB_t3 15 (by decide +kernel) (by decide +kernel), TB_t3 16 (by decide +kernel) (by decide +kernel), ini_Sf, TB_t3 17 (by decide +kernel) (by decide +kernel), by decide +kernel⟩
set_option maxRecDepth 100000 in
theorem mv_Sf_move : MthV R_Sf y_Sf_move c_Sf_move 6 (none) 5 := ⟨TB_t3 19 (by decide +kernel) (by decide +kernel), TB_t3 20 (by decide +kernel) (by decide +kernel), ini_Sf, TB_t3 21 (by decide +kernel) (by decide +kernel), by decide +kernel⟩
set_option maxRecDepth 100000 in
theorem mv_Sf_sumOf : MthV R_Sf y_Sf_sumOf c_Sf_sumOf 4 (some .int) 1 := ⟨TB_t3 30 (by decide +kernel) (by decide +kernel), TB_t3 31 (by decide +kernel) (by decide +kernel), ini_Sf, TB_t3 32 (by decide +kernel) (by decide +kernel), by decide +kernel⟩
set_option maxRecDepth 100000 in
theorem mv_Sf_allWithin : MthV R_Sf y_Sf_allWithin c_Sf_allWithin 5 (some .boolean) 3 := ⟨TB_t3 39 (by decide +kernel) (by decide +kernel), TB_t3 40 (by decide +kernel) (by decide +kernel), ini_Sf, TB_t3 41 (by decide +kernel) (by decide +kernel), by decide +kernel⟩
set_option maxRecDepth 100000 in
theorem mv_Sf_hasTwins : MthV R_Sf y_Sf_hasTwins c_Sf_hasTwins 4 (some .boolean) 1 := ⟨TB_t3 231 (by decide +kernel) (by decide +kernel), TB_t3 232 (by decide +kernel) (by decide +kernel), ini_Sf, TB_t3 233 (by decide +kernel) (by decide +kernel), by decide +kernel⟩
set_option maxRecDepth 100000 in
theorem mv_Sf_present : MthV R_Sf y_Sf_present c_Sf_present 3 (some .int) 0 := ⟨TB_t5 219 (by decide +kernel) (by decide +kernel), TB_t5 220 (by decide +kernel) (by decide +kernel), ini_Sf, TB_t5 221 (by decide +kernel) (by decide +kernel), by decide +kernel⟩
set_option maxRecDepth 100000 in
theorem mv_Sf_mixInto : MthV R_Sf y_Sf_mixInto c_Sf_mixInto 7 (some .long) 1 := ⟨TB_t6 17 (by decide +kernel) (by decide +kernel), TB_t6 18 (by decide +kernel) (by decide +kernel), ini_Sf, TB_t6 19 (by decide +kernel) (by decide +kernel), by decide +kernel⟩
set_option maxRecDepth 100000 in
theorem mv_St_set : MthV R_St y_St_set c_St_set 6 (none) 2 := ⟨TB_t5 13 (by decide +kernel) (by decide +kernel), TB_t5 14 (by decide +kernel) (by decide +kernel), ini_St, TB_t5 15 (by decide +kernel) (by decide +kernel), by decide +kernel⟩
set_option maxRecDepth 100000 in
theorem mv_St_stand : MthV R_St y_St_stand c_St_stand 2 (none) 1 := ⟨TB_t5 18 (by decide +kernel) (by decide +kernel), TB_pr (List.mem_of_getElem? (i := 23) (by decide +kernel)) (by decide +kernel), ini_St, TB_t5 19 (by decide +kernel) (by decide +kernel), by decide +kernel⟩
set_option maxRecDepth 100000 in
theorem mv_St_read : MthV R_St y_St_read c_St_read 1 (none) 0 := ⟨TB_t5 29 (by decide +kernel) (by decide +kernel), TB_pr (List.mem_of_getElem? (i := 24) (by decide +kernel)) (by decide +kernel), ini_St, TB_t5 30 (by decide +kernel) (by decide +kernel), by decide +kernel⟩
set_option maxRecDepth 100000 in
theorem mv_St_goOn : MthV R_St y_St_goOn c_St_goOn 1 (none) 0 := ⟨TB_t5 53 (by decide +kernel) (by decide +kernel), TB_t5 54 (by decide +kernel) (by decide +kernel), ini_St, TB_t5 55 (by decide +kernel) (by decide +kernel), by decide +kernel⟩
set_option maxRecDepth 100000 in
theorem mv_Ta_found : MthV R_Ta y_Ta_found c_Ta_found 2 (some .int) 1 := ⟨TB_t2 214 (by decide +kernel) (by decide +kernel), TB_t2 215 (by decide +kernel) (by decide +kernel), ini_Ta, TB_t2 216 (by decide +kernel) (by decide +kernel), by decide +kernel⟩
set_option maxRecDepth 100000 in
theorem mv_Ta_tellFraction : MthV R_Ta y_Ta_tellFraction c_Ta_tellFraction 7 (none) 2 := ⟨TB_t4 182 (by decide +kernel) (by decide +kernel), TB_t4 183 (by decide +kernel) (by decide +kernel), ini_Ta, TB_t4 184 (by decide +kernel) (by decide +kernel), by decide +kernel⟩
set_option maxRecDepth 100000 in
theorem mv_To_stopAt : MthV R_To y_To_stopAt c_To_stopAt 2 (some .int) 1 := ⟨TB_t5 141 (by decide +kernel) (by decide +kernel), TB_t5 142 (by decide +kernel) (by decide +kernel), ini_To, TB_t5 143 (by decide +kernel) (by decide +kernel), by decide +kernel⟩
set_option maxRecDepth 100000 in
theorem mv_To_refresh : MthV R_To y_To_refresh c_To_refresh 1 (none) 0 := ⟨TB_t5 96 (by decide +kernel) (by decide +kernel), TB_t5 97 (by decide +kernel) (by decide +kernel), ini_To, TB_t5 98 (by decide +kernel) (by decide +kernel), by decide +kernel⟩
set_option maxRecDepth 100000 in
theorem mv_To_gatherStops : MthV R_To y_To_gatherStops c_To_gatherStops 2 (none) 0 := ⟨TB_t5 102 (by decide +kernel) (by decide +kernel), TB_pr (List.mem_of_getElem? (i := 31) (by decide +kernel)) (by decide +kernel), ini_To, TB_t5 103 (by decide +kernel) (by decide +kernel), by decide +kernel⟩
set_option maxRecDepth 100000 in
theorem mv_To_isParted : MthV R_To y_To_isParted c_To_isParted 2 (some .boolean) 0 := ⟨TB_t5 107 (by decide +kernel) (by decide +kernel), TB_pr (List.mem_of_getElem? (i := 32) (by decide +kernel)) (by decide +kernel), ini_To, TB_t5 108 (by decide +kernel) (by decide +kernel), by decide +kernel⟩
set_option maxRecDepth 100000 in
theorem mv_To_way : MthV R_To y_To_way c_To_way 3 (some .int) 2 := ⟨TB_t5 111 (by decide +kernel) (by decide +kernel), TB_pr (List.mem_of_getElem? (i := 33) (by decide +kernel)) (by decide +kernel), ini_To, TB_t5 112 (by decide +kernel) (by decide +kernel), by decide +kernel⟩
set_option maxRecDepth 100000 in
theorem mv_To_workHomeward : MthV R_To y_To_workHomeward c_To_workHomeward 4 (none) 0 := ⟨TB_t5 116 (by decide +kernel) (by decide +kernel), TB_pr (List.mem_of_getElem? (i := 34) (by decide +kernel)) (by decide +kernel), ini_To, TB_t5 117 (by decide +kernel) (by decide +kernel), by decide +kernel⟩
set_option maxRecDepth 100000 in
theorem mv_To_bestBeyond : MthV R_To y_To_bestBeyond c_To_bestBeyond 5 (some .int) 2 := ⟨TB_t5 120 (by decide +kernel) (by decide +kernel), TB_pr (List.mem_of_getElem? (i := 35) (by decide +kernel)) (by decide +kernel), ini_To, TB_t5 121 (by decide +kernel) (by decide +kernel), by decide +kernel⟩
set_option maxRecDepth 100000 in
theorem mv_To_wayOver : MthV R_To y_To_wayOver c_To_wayOver 4 (some .int) 3 := ⟨TB_t5 125 (by decide +kernel) (by decide +kernel), TB_pr (List.mem_of_getElem? (i := 36) (by decide +kernel)) (by decide +kernel), ini_To, TB_t5 126 (by decide +kernel) (by decide +kernel), by decide +kernel⟩
set_option maxRecDepth 100000 in
theorem mv_To_follow : MthV R_To y_To_follow c_To_follow 5 (none) 0 := ⟨TB_t5 130 (by decide +kernel) (by decide +kernel), TB_pr (List.mem_of_getElem? (i := 37) (by decide +kernel)) (by decide +kernel), ini_To, TB_t5 131 (by decide +kernel) (by decide +kernel), by decide +kernel⟩
set_option maxRecDepth 100000 in
theorem mv_To_nextStop : MthV R_To y_To_nextStop c_To_nextStop 6 (some .int) 2 := ⟨TB_t5 134 (by decide +kernel) (by decide +kernel), TB_pr (List.mem_of_getElem? (i := 38) (by decide +kernel)) (by decide +kernel), ini_To, TB_t5 135 (by decide +kernel) (by decide +kernel), by decide +kernel⟩
set_option maxRecDepth 100000 in
theorem mv_Wk_isOf : MthV R_Wk y_Wk_isOf c_Wk_isOf 2 (some .boolean) 1 := ⟨TB_t3 219 (by decide +kernel) (by decide +kernel), TB_t3 220 (by decide +kernel) (by decide +kernel), ini_Wk, TB_t3 221 (by decide +kernel) (by decide +kernel), by decide +kernel⟩
set_option maxRecDepth 100000 in
theorem mv_Wk_markOf : MthV R_Wk y_Wk_markOf c_Wk_markOf 2 (some .int) 1 := ⟨TB_t3 223 (by decide +kernel) (by decide +kernel), TB_t3 224 (by decide +kernel) (by decide +kernel), ini_Wk, TB_t3 225 (by decide +kernel) (by decide +kernel), by decide +kernel⟩
set_option maxRecDepth 100000 in
theorem mv_Wk_unitParts : MthV R_Wk y_Wk_unitParts c_Wk_unitParts 1 (some .int) 0 := ⟨TB_t3 201 (by decide +kernel) (by decide +kernel), TB_t3 202 (by decide +kernel) (by decide +kernel), ini_Wk, TB_t3 203 (by decide +kernel) (by decide +kernel), by decide +kernel⟩
set_option maxRecDepth 100000 in
theorem mv_Wk_legBehind : MthV R_Wk y_Wk_legBehind c_Wk_legBehind 2 (some .int) 1 := ⟨TB_t3 177 (by decide +kernel) (by decide +kernel), TB_t3 178 (by decide +kernel) (by decide +kernel), ini_Wk, TB_t3 179 (by decide +kernel) (by decide +kernel), by decide +kernel⟩
set_option maxRecDepth 100000 in
theorem mv_Wk_faultOn : MthV R_Wk y_Wk_faultOn c_Wk_faultOn 5 (some .int) 1 := ⟨TB_t3 173 (by decide +kernel) (by decide +kernel), TB_t3 174 (by decide +kernel) (by decide +kernel), ini_Wk, TB_t3 175 (by decide +kernel) (by decide +kernel), by decide +kernel⟩
set_option maxRecDepth 100000 in
theorem mv_Wk_rideFault : MthV R_Wk y_Wk_rideFault c_Wk_rideFault 2 (some .int) 1 := ⟨TB_t3 194 (by decide +kernel) (by decide +kernel), TB_pr (List.mem_of_getElem? (i := 5) (by decide +kernel)) (by decide +kernel), ini_Wk, TB_t3 195 (by decide +kernel) (by decide +kernel), by decide +kernel⟩
set_option maxRecDepth 100000 in
theorem mv_Wk_longestRide : MthV R_Wk y_Wk_longestRide c_Wk_longestRide 8 (some .int) 1 := ⟨TB_t3 182 (by decide +kernel) (by decide +kernel), TB_t3 183 (by decide +kernel) (by decide +kernel), ini_Wk, TB_t3 184 (by decide +kernel) (by decide +kernel), by decide +kernel⟩
set_option maxRecDepth 100000 in
theorem mv_Wk_prepare : MthV R_Wk y_Wk_prepare c_Wk_prepare 2 (none) 1 := ⟨TB_t3 163 (by decide +kernel) (by decide +kernel), TB_t3 164 (by decide +kernel) (by decide +kernel), ini_Wk, TB_t3 165 (by decide +kernel) (by decide +kernel), by decide +kernel⟩
set_option maxRecDepth 100000 in
theorem mv_Wk_prepareLegs : MthV R_Wk y_Wk_prepareLegs c_Wk_prepareLegs 5 (none) 1 := ⟨TB_t3 198 (by decide +kernel) (by decide +kernel), TB_pr (List.mem_of_getElem? (i := 6) (by decide +kernel)) (by decide +kernel), ini_Wk, TB_t3 199 (by decide +kernel) (by decide +kernel), by decide +kernel⟩
set_option maxRecDepth 100000 in
theorem mv_Wk_phaseAt : MthV R_Wk y_Wk_phaseAt c_Wk_phaseAt 2 (some .int) 1 := ⟨TB_t4 29 (by decide +kernel) (by decide +kernel), TB_t4 30 (by decide +kernel) (by decide +kernel), ini_Wk, TB_t4 31 (by decide +kernel) (by decide +kernel), by decide +kernel⟩
set_option maxRecDepth 100000 in
theorem mv_Wk_legAt : MthV R_Wk y_Wk_legAt c_Wk_legAt 3 (some .int) 1 := ⟨TB_t4 36 (by decide +kernel) (by decide +kernel), TB_t4 37 (by decide +kernel) (by decide +kernel), ini_Wk, TB_t4 38 (by decide +kernel) (by decide +kernel), by decide +kernel⟩
set_option maxRecDepth 100000 in
theorem mv_Wk_placeAt : MthV R_Wk y_Wk_placeAt c_Wk_placeAt 6 (some .int) 2 := ⟨TB_t4 25 (by decide +kernel) (by decide +kernel), TB_t4 26 (by decide +kernel) (by decide +kernel), ini_Wk, TB_t4 27 (by decide +kernel) (by decide +kernel), by decide +kernel⟩
set_option maxRecDepth 100000 in
theorem mv_Wk_seenAt : MthV R_Wk y_Wk_seenAt c_Wk_seenAt 4 (some .int) 1 := ⟨TB_t4 60 (by decide +kernel) (by decide +kernel), TB_t4 61 (by decide +kernel) (by decide +kernel), ini_Wk, TB_t4 62 (by decide +kernel) (by decide +kernel), by decide +kernel⟩
set_option maxRecDepth 100000 in
theorem mv_Wk_mixPlanInto : MthV R_Wk y_Wk_mixPlanInto c_Wk_mixPlanInto 6 (some .long) 1 := ⟨TB_t6 11 (by decide +kernel) (by decide +kernel), TB_t6 12 (by decide +kernel) (by decide +kernel), ini_Wk, TB_t6 13 (by decide +kernel) (by decide +kernel), by decide +kernel⟩
set_option maxRecDepth 100000 in
theorem mv_Wa_look : MthV R_Wa y_Wa_look c_Wa_look 4 (none) 3 := ⟨TB_t4 78 (by decide +kernel) (by decide +kernel), TB_t4 79 (by decide +kernel) (by decide +kernel), ini_Wa, TB_t4 80 (by decide +kernel) (by decide +kernel), by decide +kernel⟩
set_option maxRecDepth 100000 in
theorem mv_Wa_alwaysSeen : MthV R_Wa y_Wa_alwaysSeen c_Wa_alwaysSeen 5 (some .int) 1 := ⟨TB_t4 89 (by decide +kernel) (by decide +kernel), TB_pr (List.mem_of_getElem? (i := 9) (by decide +kernel)) (by decide +kernel), ini_Wa, TB_t4 90 (by decide +kernel) (by decide +kernel), by decide +kernel⟩
set_option maxRecDepth 100000 in
theorem mv_Wa_clear : MthV R_Wa y_Wa_clear c_Wa_clear 3 (none) 0 := ⟨TB_t4 94 (by decide +kernel) (by decide +kernel), TB_pr (List.mem_of_getElem? (i := 10) (by decide +kernel)) (by decide +kernel), ini_Wa, TB_t4 95 (by decide +kernel) (by decide +kernel), by decide +kernel⟩
set_option maxRecDepth 100000 in
theorem mv_Wa_enlist : MthV R_Wa y_Wa_enlist c_Wa_enlist 4 (none) 1 := ⟨TB_t4 98 (by decide +kernel) (by decide +kernel), TB_pr (List.mem_of_getElem? (i := 11) (by decide +kernel)) (by decide +kernel), ini_Wa, TB_t4 99 (by decide +kernel) (by decide +kernel), by decide +kernel⟩
set_option maxRecDepth 100000 in
theorem mv_Wa_setOut : MthV R_Wa y_Wa_setOut c_Wa_setOut 6 (none) 3 := ⟨TB_t4 102 (by decide +kernel) (by decide +kernel), TB_pr (List.mem_of_getElem? (i := 12) (by decide +kernel)) (by decide +kernel), ini_Wa, TB_t4 103 (by decide +kernel) (by decide +kernel), by decide +kernel⟩
set_option maxRecDepth 100000 in
theorem mv_Wa_coverAhead : MthV R_Wa y_Wa_coverAhead c_Wa_coverAhead 4 (none) 2 := ⟨TB_t4 109 (by decide +kernel) (by decide +kernel), TB_pr (List.mem_of_getElem? (i := 13) (by decide +kernel)) (by decide +kernel), ini_Wa, TB_t4 110 (by decide +kernel) (by decide +kernel), by decide +kernel⟩
set_option maxRecDepth 100000 in
theorem mv_Wa_sweep : MthV R_Wa y_Wa_sweep c_Wa_sweep 6 (none) 0 := ⟨TB_t4 113 (by decide +kernel) (by decide +kernel), TB_pr (List.mem_of_getElem? (i := 14) (by decide +kernel)) (by decide +kernel), ini_Wa, TB_t4 114 (by decide +kernel) (by decide +kernel), by decide +kernel⟩
set_option maxRecDepth 100000 in
theorem mv_Wa_earliest : MthV R_Wa y_Wa_earliest c_Wa_earliest 3 (some .int) 0 := ⟨TB_t4 117 (by decide +kernel) (by decide +kernel), TB_pr (List.mem_of_getElem? (i := 15) (by decide +kernel)) (by decide +kernel), ini_Wa, TB_t4 118 (by decide +kernel) (by decide +kernel), by decide +kernel⟩
set_option maxRecDepth 100000 in
theorem mv_Wa_see : MthV R_Wa y_Wa_see c_Wa_see 6 (none) 3 := ⟨TB_t4 121 (by decide +kernel) (by decide +kernel), TB_pr (List.mem_of_getElem? (i := 16) (by decide +kernel)) (by decide +kernel), ini_Wa, TB_t4 122 (by decide +kernel) (by decide +kernel), by decide +kernel⟩
set_option maxRecDepth 100000 in
theorem mv_Wa_seeOne : MthV R_Wa y_Wa_seeOne c_Wa_seeOne 4 (none) 3 := ⟨TB_t4 125 (by decide +kernel) (by decide +kernel), TB_pr (List.mem_of_getElem? (i := 17) (by decide +kernel)) (by decide +kernel), ini_Wa, TB_t4 126 (by decide +kernel) (by decide +kernel), by decide +kernel⟩
set_option maxRecDepth 100000 in
theorem mv_Wa_noteGap : MthV R_Wa y_Wa_noteGap c_Wa_noteGap 4 (none) 3 := ⟨TB_t4 129 (by decide +kernel) (by decide +kernel), TB_pr (List.mem_of_getElem? (i := 18) (by decide +kernel)) (by decide +kernel), ini_Wa, TB_t4 130 (by decide +kernel) (by decide +kernel), by decide +kernel⟩
set_option maxRecDepth 100000 in
theorem mv_Wa_closeRound : MthV R_Wa y_Wa_closeRound c_Wa_closeRound 3 (none) 0 := ⟨TB_t4 133 (by decide +kernel) (by decide +kernel), TB_pr (List.mem_of_getElem? (i := 19) (by decide +kernel)) (by decide +kernel), ini_Wa, TB_t4 134 (by decide +kernel) (by decide +kernel), by decide +kernel⟩
set_option maxRecDepth 100000 in
theorem mv_Wa_idleOf : MthV R_Wa y_Wa_idleOf c_Wa_idleOf 2 (some .int) 1 := ⟨TB_t4 136 (by decide +kernel) (by decide +kernel), TB_t4 137 (by decide +kernel) (by decide +kernel), ini_Wa, TB_t4 138 (by decide +kernel) (by decide +kernel), by decide +kernel⟩
set_option maxRecDepth 100000 in
theorem mv_Wa_idleStartOf : MthV R_Wa y_Wa_idleStartOf c_Wa_idleStartOf 2 (some .int) 1 := ⟨TB_t4 144 (by decide +kernel) (by decide +kernel), TB_t4 145 (by decide +kernel) (by decide +kernel), ini_Wa, TB_t4 146 (by decide +kernel) (by decide +kernel), by decide +kernel⟩
set_option maxRecDepth 100000 in
theorem mv_Wa_unseenOf : MthV R_Wa y_Wa_unseenOf c_Wa_unseenOf 2 (some .int) 1 := ⟨TB_t4 178 (by decide +kernel) (by decide +kernel), TB_t4 179 (by decide +kernel) (by decide +kernel), ini_Wa, TB_t4 180 (by decide +kernel) (by decide +kernel), by decide +kernel⟩
set_option maxRecDepth 100000 in
theorem mv_Wa_openingsOf : MthV R_Wa y_Wa_openingsOf c_Wa_openingsOf 2 (some .int) 1 := ⟨TB_t4 194 (by decide +kernel) (by decide +kernel), TB_t4 195 (by decide +kernel) (by decide +kernel), ini_Wa, TB_t4 196 (by decide +kernel) (by decide +kernel), by decide +kernel⟩
set_option maxRecDepth 100000 in
theorem mv_Wa_loadOf : MthV R_Wa y_Wa_loadOf c_Wa_loadOf 3 (some .int) 1 := ⟨TB_t4 164 (by decide +kernel) (by decide +kernel), TB_t4 165 (by decide +kernel) (by decide +kernel), ini_Wa, TB_t4 166 (by decide +kernel) (by decide +kernel), by decide +kernel⟩
set_option maxRecDepth 100000 in
theorem mv_Wa_lureOf : MthV R_Wa y_Wa_lureOf c_Wa_lureOf 2 (some .int) 1 := ⟨TB_t4 206 (by decide +kernel) (by decide +kernel), TB_t4 207 (by decide +kernel) (by decide +kernel), ini_Wa, TB_t4 208 (by decide +kernel) (by decide +kernel), by decide +kernel⟩
set_option maxRecDepth 100000 in
theorem mv_Wa_worstPost : MthV R_Wa y_Wa_worstPost c_Wa_worstPost 4 (some .int) 0 := ⟨TB_t4 156 (by decide +kernel) (by decide +kernel), TB_t4 157 (by decide +kernel) (by decide +kernel), ini_Wa, TB_t4 158 (by decide +kernel) (by decide +kernel), by decide +kernel⟩
set_option maxRecDepth 100000 in
theorem mv_Wa_bestForThief : MthV R_Wa y_Wa_bestForThief c_Wa_bestForThief 4 (some .int) 0 := ⟨TB_t4 202 (by decide +kernel) (by decide +kernel), TB_t4 203 (by decide +kernel) (by decide +kernel), ini_Wa, TB_t4 204 (by decide +kernel) (by decide +kernel), by decide +kernel⟩
set_option maxRecDepth 100000 in
theorem mv_Wa_longestIdle : MthV R_Wa y_Wa_longestIdle c_Wa_longestIdle 3 (some .int) 0 := ⟨TB_t4 215 (by decide +kernel) (by decide +kernel), TB_t4 216 (by decide +kernel) (by decide +kernel), ini_Wa, TB_t4 217 (by decide +kernel) (by decide +kernel), by decide +kernel⟩
set_option maxRecDepth 100000 in
theorem mv_W_row : MthV R_W y_W_row c_W_row 3 (some .int) 2 := ⟨TB_t2 207 (by decide +kernel) (by decide +kernel), TB_t2 208 (by decide +kernel) (by decide +kernel), ini_W, TB_t2 209 (by decide +kernel) (by decide +kernel), by decide +kernel⟩
set_option maxRecDepth 100000 in
theorem mv_W_lay : MthV R_W y_W_lay c_W_lay 5 (some .int) 3 := ⟨TB_t2 226 (by decide +kernel) (by decide +kernel), TB_t2 227 (by decide +kernel) (by decide +kernel), ini_W, TB_t2 228 (by decide +kernel) (by decide +kernel), by decide +kernel⟩
set_option maxRecDepth 100000 in
theorem mv_W_tear : MthV R_W y_W_tear c_W_tear 2 (some .int) 1 := ⟨TB_t3 3 (by decide +kernel) (by decide +kernel), TB_t3 4 (by decide +kernel) (by decide +kernel), ini_W, TB_t3 5 (by decide +kernel) (by decide +kernel), by decide +kernel⟩
set_option maxRecDepth 100000 in
theorem mv_W_copy : MthV R_W y_W_copy c_W_copy 6 (some .int) 5 := ⟨TB_t3 11 (by decide +kernel) (by decide +kernel), TB_t3 12 (by decide +kernel) (by decide +kernel), ini_W, TB_t3 13 (by decide +kernel) (by decide +kernel), by decide +kernel⟩
set_option maxRecDepth 100000 in
theorem mv_W_mean : MthV R_W y_W_mean c_W_mean 3 (some .int) 1 := ⟨TB_t3 26 (by decide +kernel) (by decide +kernel), TB_t3 27 (by decide +kernel) (by decide +kernel), ini_W, TB_t3 28 (by decide +kernel) (by decide +kernel), by decide +kernel⟩
set_option maxRecDepth 100000 in
theorem mv_W_fence : MthV R_W y_W_fence c_W_fence 7 (some .int) 2 := ⟨TB_t3 35 (by decide +kernel) (by decide +kernel), TB_t3 36 (by decide +kernel) (by decide +kernel), ini_W, TB_t3 37 (by decide +kernel) (by decide +kernel), by decide +kernel⟩
set_option maxRecDepth 100000 in
theorem mv_W_net : MthV R_W y_W_net c_W_net 2 (some .int) 1 := ⟨TB_t3 59 (by decide +kernel) (by decide +kernel), TB_t3 60 (by decide +kernel) (by decide +kernel), ini_W, TB_t3 61 (by decide +kernel) (by decide +kernel), by decide +kernel⟩
set_option maxRecDepth 100000 in
theorem mv_W_wall : MthV R_W y_W_wall c_W_wall 4 (some .int) 3 := ⟨TB_t3 63 (by decide +kernel) (by decide +kernel), TB_t3 64 (by decide +kernel) (by decide +kernel), ini_W, TB_t3 65 (by decide +kernel) (by decide +kernel), by decide +kernel⟩
set_option maxRecDepth 100000 in
theorem mv_W_breaks : MthV R_W y_W_breaks c_W_breaks 6 (some .int) 3 := ⟨TB_t3 75 (by decide +kernel) (by decide +kernel), TB_t3 76 (by decide +kernel) (by decide +kernel), ini_W, TB_t3 77 (by decide +kernel) (by decide +kernel), by decide +kernel⟩
set_option maxRecDepth 100000 in
theorem mv_W_far : MthV R_W y_W_far c_W_far 3 (some .int) 2 := ⟨TB_t3 84 (by decide +kernel) (by decide +kernel), TB_t3 85 (by decide +kernel) (by decide +kernel), ini_W, TB_t3 86 (by decide +kernel) (by decide +kernel), by decide +kernel⟩
set_option maxRecDepth 100000 in
theorem mv_W_worth : MthV R_W y_W_worth c_W_worth 3 (some .int) 2 := ⟨TB_t3 101 (by decide +kernel) (by decide +kernel), TB_t3 102 (by decide +kernel) (by decide +kernel), ini_W, TB_t3 103 (by decide +kernel) (by decide +kernel), by decide +kernel⟩
set_option maxRecDepth 100000 in
theorem mv_W_base : MthV R_W y_W_base c_W_base 3 (some .int) 2 := ⟨TB_t3 109 (by decide +kernel) (by decide +kernel), TB_t3 110 (by decide +kernel) (by decide +kernel), ini_W, TB_t3 111 (by decide +kernel) (by decide +kernel), by decide +kernel⟩
set_option maxRecDepth 100000 in
theorem mv_W_walker : MthV R_W y_W_walker c_W_walker 4 (some .int) 3 := ⟨TB_t3 117 (by decide +kernel) (by decide +kernel), TB_t3 118 (by decide +kernel) (by decide +kernel), ini_W, TB_t3 119 (by decide +kernel) (by decide +kernel), by decide +kernel⟩
set_option maxRecDepth 100000 in
theorem mv_W_home : MthV R_W y_W_home c_W_home 2 (some .int) 1 := ⟨TB_t3 133 (by decide +kernel) (by decide +kernel), TB_t3 134 (by decide +kernel) (by decide +kernel), ini_W, TB_t3 135 (by decide +kernel) (by decide +kernel), by decide +kernel⟩
set_option maxRecDepth 100000 in
theorem mv_W_view : MthV R_W y_W_view c_W_view 5 (some .int) 2 := ⟨TB_t3 146 (by decide +kernel) (by decide +kernel), TB_t3 147 (by decide +kernel) (by decide +kernel), ini_W, TB_t3 148 (by decide +kernel) (by decide +kernel), by decide +kernel⟩
set_option maxRecDepth 100000 in
theorem mv_W_lose : MthV R_W y_W_lose c_W_lose 5 (some .int) 2 := ⟨TB_t3 150 (by decide +kernel) (by decide +kernel), TB_t3 151 (by decide +kernel) (by decide +kernel), ini_W, TB_t3 152 (by decide +kernel) (by decide +kernel), by decide +kernel⟩
set_option maxRecDepth 100000 in
theorem mv_W_told : MthV R_W y_W_told c_W_told 3 (some .int) 2 := ⟨TB_t3 154 (by decide +kernel) (by decide +kernel), TB_t3 155 (by decide +kernel) (by decide +kernel), ini_W, TB_t3 156 (by decide +kernel) (by decide +kernel), by decide +kernel⟩
set_option maxRecDepth 100000 in
theorem mv_W_mark : MthV R_W y_W_mark c_W_mark 4 (some .int) 2 := ⟨TB_t3 214 (by decide +kernel) (by decide +kernel), TB_t3 215 (by decide +kernel) (by decide +kernel), ini_W, TB_t3 216 (by decide +kernel) (by decide +kernel), by decide +kernel⟩
set_option maxRecDepth 100000 in
theorem mv_W_plan : MthV R_W y_W_plan c_W_plan 7 (some .int) 4 := ⟨TB_t3 227 (by decide +kernel) (by decide +kernel), TB_t3 228 (by decide +kernel) (by decide +kernel), ini_W, TB_t3 229 (by decide +kernel) (by decide +kernel), by decide +kernel⟩
set_option maxRecDepth 100000 in
theorem mv_W_unplan : MthV R_W y_W_unplan c_W_unplan 4 (some .int) 1 := ⟨TB_t4 3 (by decide +kernel) (by decide +kernel), TB_t4 4 (by decide +kernel) (by decide +kernel), ini_W, TB_t4 5 (by decide +kernel) (by decide +kernel), by decide +kernel⟩
set_option maxRecDepth 100000 in
theorem mv_W_planned : MthV R_W y_W_planned c_W_planned 5 (some .int) 3 := ⟨TB_t4 7 (by decide +kernel) (by decide +kernel), TB_t4 8 (by decide +kernel) (by decide +kernel), ini_W, TB_t4 9 (by decide +kernel) (by decide +kernel), by decide +kernel⟩
set_option maxRecDepth 100000 in
theorem mv_W_fit : MthV R_W y_W_fit c_W_fit 2 (some .int) 1 := ⟨TB_t4 11 (by decide +kernel) (by decide +kernel), TB_t4 12 (by decide +kernel) (by decide +kernel), ini_W, TB_t4 13 (by decide +kernel) (by decide +kernel), by decide +kernel⟩
set_option maxRecDepth 100000 in
theorem mv_W_where : MthV R_W y_W_where c_W_where 4 (some .int) 3 := ⟨TB_t4 16 (by decide +kernel) (by decide +kernel), TB_t4 17 (by decide +kernel) (by decide +kernel), ini_W, TB_t4 18 (by decide +kernel) (by decide +kernel), by decide +kernel⟩
set_option maxRecDepth 100000 in
theorem mv_W_joint : MthV R_W y_W_joint c_W_joint 1 (some .int) 0 := ⟨TB_t4 40 (by decide +kernel) (by decide +kernel), TB_t4 41 (by decide +kernel) (by decide +kernel), ini_W, TB_t4 42 (by decide +kernel) (by decide +kernel), by decide +kernel⟩
set_option maxRecDepth 100000 in
theorem mv_W_seen : MthV R_W y_W_seen c_W_seen 2 (some .int) 1 := ⟨TB_t4 51 (by decide +kernel) (by decide +kernel), TB_t4 52 (by decide +kernel) (by decide +kernel), ini_W, TB_t4 53 (by decide +kernel) (by decide +kernel), by decide +kernel⟩
set_option maxRecDepth 100000 in
theorem mv_W_idle : MthV R_W y_W_idle c_W_idle 3 (some .int) 1 := ⟨TB_t4 70 (by decide +kernel) (by decide +kernel), TB_t4 71 (by decide +kernel) (by decide +kernel), ini_W, TB_t4 72 (by decide +kernel) (by decide +kernel), by decide +kernel⟩
set_option maxRecDepth 100000 in
theorem mv_W_idleFrom : MthV R_W y_W_idleFrom c_W_idleFrom 3 (some .int) 1 := ⟨TB_t4 140 (by decide +kernel) (by decide +kernel), TB_t4 141 (by decide +kernel) (by decide +kernel), ini_W, TB_t4 142 (by decide +kernel) (by decide +kernel), by decide +kernel⟩
set_option maxRecDepth 100000 in
theorem mv_W_worst : MthV R_W y_W_worst c_W_worst 2 (some .int) 0 := ⟨TB_t4 148 (by decide +kernel) (by decide +kernel), TB_t4 149 (by decide +kernel) (by decide +kernel), ini_W, TB_t4 150 (by decide +kernel) (by decide +kernel), by decide +kernel⟩
set_option maxRecDepth 100000 in
theorem mv_W_share : MthV R_W y_W_share c_W_share 3 (some .int) 1 := ⟨TB_t4 174 (by decide +kernel) (by decide +kernel), TB_t4 175 (by decide +kernel) (by decide +kernel), ini_W, TB_t4 176 (by decide +kernel) (by decide +kernel), by decide +kernel⟩
set_option maxRecDepth 100000 in
theorem mv_W_chance : MthV R_W y_W_chance c_W_chance 4 (some .int) 2 := ⟨TB_t4 187 (by decide +kernel) (by decide +kernel), TB_t4 188 (by decide +kernel) (by decide +kernel), ini_W, TB_t4 189 (by decide +kernel) (by decide +kernel), by decide +kernel⟩
set_option maxRecDepth 100000 in
theorem mv_W_thief : MthV R_W y_W_thief c_W_thief 3 (some .int) 1 := ⟨TB_t4 198 (by decide +kernel) (by decide +kernel), TB_t4 199 (by decide +kernel) (by decide +kernel), ini_W, TB_t4 200 (by decide +kernel) (by decide +kernel), by decide +kernel⟩
set_option maxRecDepth 100000 in
theorem mv_W_safe : MthV R_W y_W_safe c_W_safe 1 (some .int) 0 := ⟨TB_t4 211 (by decide +kernel) (by decide +kernel), TB_t4 212 (by decide +kernel) (by decide +kernel), ini_W, TB_t4 213 (by decide +kernel) (by decide +kernel), by decide +kernel⟩
set_option maxRecDepth 100000 in
theorem mv_W_peril : MthV R_W y_W_peril c_W_peril 5 (some .int) 1 := ⟨TB_t4 219 (by decide +kernel) (by decide +kernel), TB_t4 220 (by decide +kernel) (by decide +kernel), ini_W, TB_t4 221 (by decide +kernel) (by decide +kernel), by decide +kernel⟩
set_option maxRecDepth 100000 in
theorem mv_W_meet : MthV R_W y_W_meet c_W_meet 4 (some .int) 3 := ⟨TB_t4 239 (by decide +kernel) (by decide +kernel), TB_t5 0 (by decide +kernel) (by decide +kernel), ini_W, TB_t5 1 (by decide +kernel) (by decide +kernel), by decide +kernel⟩
set_option maxRecDepth 100000 in
theorem mv_W_word : MthV R_W y_W_word c_W_word 4 (some .int) 3 := ⟨TB_t5 62 (by decide +kernel) (by decide +kernel), TB_t5 63 (by decide +kernel) (by decide +kernel), ini_W, TB_t5 64 (by decide +kernel) (by decide +kernel), by decide +kernel⟩
set_option maxRecDepth 100000 in
theorem mv_W_spread : MthV R_W y_W_spread c_W_spread 3 (some .int) 2 := ⟨TB_t5 88 (by decide +kernel) (by decide +kernel), TB_t5 89 (by decide +kernel) (by decide +kernel), ini_W, TB_t5 90 (by decide +kernel) (by decide +kernel), by decide +kernel⟩
set_option maxRecDepth 100000 in
theorem mv_W_round : MthV R_W y_W_round c_W_round 1 (some .int) 0 := ⟨TB_t5 92 (by decide +kernel) (by decide +kernel), TB_t5 93 (by decide +kernel) (by decide +kernel), ini_W, TB_t5 94 (by decide +kernel) (by decide +kernel), by decide +kernel⟩
set_option maxRecDepth 100000 in
theorem mv_W_roundAt : MthV R_W y_W_roundAt c_W_roundAt 2 (some .int) 1 := ⟨TB_t5 137 (by decide +kernel) (by decide +kernel), TB_t5 138 (by decide +kernel) (by decide +kernel), ini_W, TB_t5 139 (by decide +kernel) (by decide +kernel), by decide +kernel⟩
set_option maxRecDepth 100000 in
theorem mv_W_parting : MthV R_W y_W_parting c_W_parting 1 (some .int) 0 := ⟨TB_t5 145 (by decide +kernel) (by decide +kernel), TB_t5 146 (by decide +kernel) (by decide +kernel), ini_W, TB_t5 147 (by decide +kernel) (by decide +kernel), by decide +kernel⟩
set_option maxRecDepth 100000 in
theorem mv_W_partOf : MthV R_W y_W_partOf c_W_partOf 3 (some .int) 2 := ⟨TB_t5 194 (by decide +kernel) (by decide +kernel), TB_t5 195 (by decide +kernel) (by decide +kernel), ini_W, TB_t5 196 (by decide +kernel) (by decide +kernel), by decide +kernel⟩
set_option maxRecDepth 100000 in
theorem mv_W_fuel : MthV R_W y_W_fuel c_W_fuel 4 (some .int) 1 := ⟨TB_t5 198 (by decide +kernel) (by decide +kernel), TB_t5 199 (by decide +kernel) (by decide +kernel), ini_W, TB_t5 200 (by decide +kernel) (by decide +kernel), by decide +kernel⟩
set_option maxRecDepth 100000 in
theorem mv_W_asked : MthV R_W y_W_asked c_W_asked 1 (some .int) 0 := ⟨TB_t5 203 (by decide +kernel) (by decide +kernel), TB_t5 204 (by decide +kernel) (by decide +kernel), ini_W, TB_t5 205 (by decide +kernel) (by decide +kernel), by decide +kernel⟩
set_option maxRecDepth 100000 in
theorem mv_W_upper : MthV R_W y_W_upper c_W_upper 1 (some .long) 0 := ⟨TB_t5 207 (by decide +kernel) (by decide +kernel), TB_t5 208 (by decide +kernel) (by decide +kernel), ini_W, TB_t5 209 (by decide +kernel) (by decide +kernel), by decide +kernel⟩
set_option maxRecDepth 100000 in
theorem mv_W_lower : MthV R_W y_W_lower c_W_lower 1 (some .long) 0 := ⟨TB_t5 211 (by decide +kernel) (by decide +kernel), TB_t5 212 (by decide +kernel) (by decide +kernel), ini_W, TB_t5 213 (by decide +kernel) (by decide +kernel), by decide +kernel⟩
set_option maxRecDepth 100000 in
theorem mv_W_count : MthV R_W y_W_count c_W_count 2 (some .int) 1 := ⟨TB_t5 215 (by decide +kernel) (by decide +kernel), TB_t5 216 (by decide +kernel) (by decide +kernel), ini_W, TB_t5 217 (by decide +kernel) (by decide +kernel), by decide +kernel⟩
set_option maxRecDepth 100000 in
theorem mv_W_finding : MthV R_W y_W_finding c_W_finding 1 (some .int) 0 := ⟨TB_t5 224 (by decide +kernel) (by decide +kernel), TB_t5 225 (by decide +kernel) (by decide +kernel), ini_W, TB_t5 226 (by decide +kernel) (by decide +kernel), by decide +kernel⟩
set_option maxRecDepth 100000 in
theorem mv_W_findings : MthV R_W y_W_findings c_W_findings 2 (some .int) 1 := ⟨TB_t5 228 (by decide +kernel) (by decide +kernel), TB_t5 229 (by decide +kernel) (by decide +kernel), ini_W, TB_t5 230 (by decide +kernel) (by decide +kernel), by decide +kernel⟩
set_option maxRecDepth 100000 in
theorem mv_W_digest : MthV R_W y_W_digest c_W_digest 4 (some .long) 0 := ⟨TB_t5 232 (by decide +kernel) (by decide +kernel), TB_t5 233 (by decide +kernel) (by decide +kernel), ini_W, TB_t5 234 (by decide +kernel) (by decide +kernel), by decide +kernel⟩
set_option maxRecDepth 100000 in
theorem mv_W_isRow : MthS y_W_isRow c_W_isRow 1 (some .boolean) 1 := ⟨TB_t2 211 (by decide +kernel) (by decide +kernel), ini_W, TB_t2 212 (by decide +kernel) (by decide +kernel), by decide +kernel⟩
set_option maxRecDepth 100000 in
theorem mv_W_isTime : MthS y_W_isTime c_W_isTime 1 (some .boolean) 1 := ⟨TB_t4 20 (by decide +kernel) (by decide +kernel), ini_W, TB_t4 21 (by decide +kernel) (by decide +kernel), by decide +kernel⟩
set_option maxRecDepth 100000 in
theorem mv_W_isStart : MthS y_W_isStart c_W_isStart 1 (some .boolean) 1 := ⟨TB_t5 3 (by decide +kernel) (by decide +kernel), ini_W, TB_t5 4 (by decide +kernel) (by decide +kernel), by decide +kernel⟩
set_option maxRecDepth 100000 in
theorem mv_W_isNeed : MthS y_W_isNeed c_W_isNeed 1 (some .boolean) 1 := ⟨TB_t4 191 (by decide +kernel) (by decide +kernel), ini_W, TB_t4 192 (by decide +kernel) (by decide +kernel), by decide +kernel⟩
set_option maxRecDepth 100000 in
theorem mv_W_isWalkerAsTold : MthV R_W y_W_isWalkerAsTold c_W_isWalkerAsTold 4 (some .boolean) 3 := ⟨TB_t3 122 (by decide +kernel) (by decide +kernel), TB_pr (List.mem_of_getElem? (i := 4) (by decide +kernel)) (by decide +kernel), ini_W, TB_t3 123 (by decide +kernel) (by decide +kernel), by decide +kernel⟩
set_option maxRecDepth 100000 in
theorem mv_W_writePlan : MthV R_W y_W_writePlan c_W_writePlan 7 (none) 4 := ⟨TB_t3 236 (by decide +kernel) (by decide +kernel), TB_pr (List.mem_of_getElem? (i := 7) (by decide +kernel)) (by decide +kernel), ini_W, TB_t3 237 (by decide +kernel) (by decide +kernel), by decide +kernel⟩
set_option maxRecDepth 100000 in
theorem mv_W_watchPost : MthV R_W y_W_watchPost c_W_watchPost 3 (some .int) 2 := ⟨TB_t4 75 (by decide +kernel) (by decide +kernel), TB_pr (List.mem_of_getElem? (i := 8) (by decide +kernel)) (by decide +kernel), ini_W, TB_t4 76 (by decide +kernel) (by decide +kernel), by decide +kernel⟩
set_option maxRecDepth 100000 in
theorem mv_W_isLoss : MthS y_W_isLoss c_W_isLoss 3 (some .boolean) 3 := ⟨TB_t4 227 (by decide +kernel) (by decide +kernel), ini_W, TB_t4 228 (by decide +kernel) (by decide +kernel), by decide +kernel⟩
set_option maxRecDepth 100000 in
theorem mv_W_isSpentWithAny : MthV R_W y_W_isSpentWithAny c_W_isSpentWithAny 4 (some .boolean) 2 := ⟨TB_t4 224 (by decide +kernel) (by decide +kernel), TB_pr (List.mem_of_getElem? (i := 20) (by decide +kernel)) (by decide +kernel), ini_W, TB_t4 225 (by decide +kernel) (by decide +kernel), by decide +kernel⟩
set_option maxRecDepth 100000 in
theorem mv_W_firstBlindSet : MthV R_W y_W_firstBlindSet c_W_firstBlindSet 5 (some .int) 2 := ⟨TB_t4 231 (by decide +kernel) (by decide +kernel), TB_pr (List.mem_of_getElem? (i := 21) (by decide +kernel)) (by decide +kernel), ini_W, TB_t4 232 (by decide +kernel) (by decide +kernel), by decide +kernel⟩
set_option maxRecDepth 100000 in
theorem mv_W_tellGreatestLoad : MthV R_W y_W_tellGreatestLoad c_W_tellGreatestLoad 8 (some .int) 2 := ⟨TB_t4 236 (by decide +kernel) (by decide +kernel), TB_pr (List.mem_of_getElem? (i := 22) (by decide +kernel)) (by decide +kernel), ini_W, TB_t4 237 (by decide +kernel) (by decide +kernel), by decide +kernel⟩
set_option maxRecDepth 100000 in
theorem mv_W_tellTime : MthV R_W y_W_tellTime c_W_tellTime 3 (some .int) 1 := ⟨TB_t5 58 (by decide +kernel) (by decide +kernel), TB_pr (List.mem_of_getElem? (i := 28) (by decide +kernel)) (by decide +kernel), ini_W, TB_t5 59 (by decide +kernel) (by decide +kernel), by decide +kernel⟩
set_option maxRecDepth 100000 in
theorem mv_W_gcd : MthS y_W_gcd c_W_gcd 11 (some .long) 2 := ⟨TB_t4 48 (by decide +kernel) (by decide +kernel), ini_W, TB_t4 49 (by decide +kernel) (by decide +kernel), by decide +kernel⟩
set_option maxRecDepth 100000 in
theorem mv_M_in : MthS y_M_in c_M_in 3 (some .boolean) 3 := ⟨TB_t6 205 (by decide +kernel) (by decide +kernel), ini_M, TB_t6 206 (by decide +kernel) (by decide +kernel), by decide +kernel⟩
set_option maxRecDepth 100000 in
theorem mv_M_meets : MthV R_M y_M_meets c_M_meets 2 (some .int) 1 := ⟨TB_t6 228 (by decide +kernel) (by decide +kernel), TB_pr (List.mem_of_getElem? (i := 47) (by decide +kernel)) (by decide +kernel), ini_M, TB_t6 229 (by decide +kernel) (by decide +kernel), by decide +kernel⟩
set_option maxRecDepth 100000 in
theorem mv_M_finding : MthV R_M y_M_finding c_M_finding 1 (some .int) 0 := ⟨TB_t6 197 (by decide +kernel) (by decide +kernel), TB_t6 198 (by decide +kernel) (by decide +kernel), ini_M, TB_t6 199 (by decide +kernel) (by decide +kernel), by decide +kernel⟩
set_option maxRecDepth 100000 in
theorem mv_M_findings : MthV R_M y_M_findings c_M_findings 2 (some .int) 1 := ⟨TB_t6 201 (by decide +kernel) (by decide +kernel), TB_t6 202 (by decide +kernel) (by decide +kernel), ini_M, TB_t6 203 (by decide +kernel) (by decide +kernel), by decide +kernel⟩
set_option maxRecDepth 100000 in
theorem mv_M_tells : MthV R_M y_M_tells c_M_tells 3 (some .int) 2 := ⟨TB_t7 182 (by decide +kernel) (by decide +kernel), TB_pr (List.mem_of_getElem? (i := 70) (by decide +kernel)) (by decide +kernel), ini_M, TB_t7 183 (by decide +kernel) (by decide +kernel), by decide +kernel⟩
set_option maxRecDepth 100000 in
theorem mv_M_asked : MthV R_M y_M_asked c_M_asked 1 (some .int) 0 := ⟨TB_t6 208 (by decide +kernel) (by decide +kernel), TB_t6 209 (by decide +kernel) (by decide +kernel), ini_M, TB_t6 210 (by decide +kernel) (by decide +kernel), by decide +kernel⟩
set_option maxRecDepth 100000 in
theorem mv_M_gcd : MthS y_M_gcd c_M_gcd 10 (some .long) 2 := ⟨TB_t7 162 (by decide +kernel) (by decide +kernel), ini_M, TB_t7 163 (by decide +kernel) (by decide +kernel), by decide +kernel⟩
set_option maxRecDepth 100000 in
theorem mv_M_fraction : MthV R_M y_M_fraction c_M_fraction 8 (some .int) 3 := ⟨TB_t7 218 (by decide +kernel) (by decide +kernel), TB_pr (List.mem_of_getElem? (i := 75) (by decide +kernel)) (by decide +kernel), ini_M, TB_t7 219 (by decide +kernel) (by decide +kernel), by decide +kernel⟩
set_option maxRecDepth 100000 in
theorem mv_M_upper : MthV R_M y_M_upper c_M_upper 1 (some .long) 0 := ⟨TB_t6 212 (by decide +kernel) (by decide +kernel), TB_t6 213 (by decide +kernel) (by decide +kernel), ini_M, TB_t6 214 (by decide +kernel) (by decide +kernel), by decide +kernel⟩
set_option maxRecDepth 100000 in
theorem mv_M_lower : MthV R_M y_M_lower c_M_lower 1 (some .long) 0 := ⟨TB_t6 216 (by decide +kernel) (by decide +kernel), TB_t6 217 (by decide +kernel) (by decide +kernel), ini_M, TB_t6 218 (by decide +kernel) (by decide +kernel), by decide +kernel⟩
set_option maxRecDepth 100000 in
theorem mv_M_isRow : MthS y_M_isRow c_M_isRow 1 (some .boolean) 1 := ⟨TB_t6 224 (by decide +kernel) (by decide +kernel), ini_M, TB_t6 225 (by decide +kernel) (by decide +kernel), by decide +kernel⟩
set_option maxRecDepth 100000 in
theorem mv_M_at : MthV R_M y_M_at c_M_at 3 (some .int) 2 := ⟨TB_t6 236 (by decide +kernel) (by decide +kernel), TB_pr (List.mem_of_getElem? (i := 48) (by decide +kernel)) (by decide +kernel), ini_M, TB_t6 237 (by decide +kernel) (by decide +kernel), by decide +kernel⟩
set_option maxRecDepth 100000 in
theorem mv_M_row : MthV R_M y_M_row c_M_row 4 (some .int) 2 := ⟨TB_t6 220 (by decide +kernel) (by decide +kernel), TB_t6 221 (by decide +kernel) (by decide +kernel), ini_M, TB_t6 222 (by decide +kernel) (by decide +kernel), by decide +kernel⟩
set_option maxRecDepth 100000 in
theorem mv_M_lay : MthV R_M y_M_lay c_M_lay 5 (some .int) 3 := ⟨TB_t6 231 (by decide +kernel) (by decide +kernel), TB_t6 232 (by decide +kernel) (by decide +kernel), ini_M, TB_t6 233 (by decide +kernel) (by decide +kernel), by decide +kernel⟩
set_option maxRecDepth 100000 in
theorem mv_M_tear : MthV R_M y_M_tear c_M_tear 2 (some .int) 1 := ⟨TB_t6 239 (by decide +kernel) (by decide +kernel), TB_t7 0 (by decide +kernel) (by decide +kernel), ini_M, TB_t7 1 (by decide +kernel) (by decide +kernel), by decide +kernel⟩
set_option maxRecDepth 100000 in
theorem mv_M_copy : MthV R_M y_M_copy c_M_copy 7 (some .int) 5 := ⟨TB_t7 3 (by decide +kernel) (by decide +kernel), TB_t7 4 (by decide +kernel) (by decide +kernel), ini_M, TB_t7 5 (by decide +kernel) (by decide +kernel), by decide +kernel⟩
set_option maxRecDepth 100000 in
theorem mv_M_mean : MthV R_M y_M_mean c_M_mean 4 (some .int) 1 := ⟨TB_t7 7 (by decide +kernel) (by decide +kernel), TB_t7 8 (by decide +kernel) (by decide +kernel), ini_M, TB_t7 9 (by decide +kernel) (by decide +kernel), by decide +kernel⟩
set_option maxRecDepth 100000 in
theorem mv_M_clear : MthV R_M y_M_clear c_M_clear 4 (none) 2 := ⟨TB_t7 16 (by decide +kernel) (by decide +kernel), TB_pr (List.mem_of_getElem? (i := 49) (by decide +kernel)) (by decide +kernel), ini_M, TB_t7 17 (by decide +kernel) (by decide +kernel), by decide +kernel⟩
set_option maxRecDepth 100000 in
theorem mv_M_join : MthV R_M y_M_join c_M_join 4 (none) 3 := ⟨TB_t7 20 (by decide +kernel) (by decide +kernel), TB_pr (List.mem_of_getElem? (i := 50) (by decide +kernel)) (by decide +kernel), ini_M, TB_t7 21 (by decide +kernel) (by decide +kernel), by decide +kernel⟩
set_option maxRecDepth 100000 in
theorem mv_M_fence : MthV R_M y_M_fence c_M_fence 6 (some .int) 2 := ⟨TB_t7 11 (by decide +kernel) (by decide +kernel), TB_t7 12 (by decide +kernel) (by decide +kernel), ini_M, TB_t7 13 (by decide +kernel) (by decide +kernel), by decide +kernel⟩
set_option maxRecDepth 100000 in
theorem mv_M_net : MthV R_M y_M_net c_M_net 2 (some .int) 1 := ⟨TB_t7 23 (by decide +kernel) (by decide +kernel), TB_t7 24 (by decide +kernel) (by decide +kernel), ini_M, TB_t7 25 (by decide +kernel) (by decide +kernel), by decide +kernel⟩
set_option maxRecDepth 100000 in
theorem mv_M_isPost : MthV R_M y_M_isPost c_M_isPost 2 (some .boolean) 1 := ⟨TB_t7 32 (by decide +kernel) (by decide +kernel), TB_pr (List.mem_of_getElem? (i := 51) (by decide +kernel)) (by decide +kernel), ini_M, TB_t7 33 (by decide +kernel) (by decide +kernel), by decide +kernel⟩
set_option maxRecDepth 100000 in
theorem mv_M_walls : MthV R_M y_M_walls c_M_walls 5 (some .int) 1 := ⟨TB_t7 36 (by decide +kernel) (by decide +kernel), TB_pr (List.mem_of_getElem? (i := 52) (by decide +kernel)) (by decide +kernel), ini_M, TB_t7 37 (by decide +kernel) (by decide +kernel), by decide +kernel⟩
set_option maxRecDepth 100000 in
theorem mv_M_wall : MthV R_M y_M_wall c_M_wall 4 (some .int) 3 := ⟨TB_t7 27 (by decide +kernel) (by decide +kernel), TB_t7 28 (by decide +kernel) (by decide +kernel), ini_M, TB_t7 29 (by decide +kernel) (by decide +kernel), by decide +kernel⟩
set_option maxRecDepth 100000 in
theorem mv_M_breaks : MthV R_M y_M_breaks c_M_breaks 5 (some .int) 3 := ⟨TB_t7 39 (by decide +kernel) (by decide +kernel), TB_t7 40 (by decide +kernel) (by decide +kernel), ini_M, TB_t7 41 (by decide +kernel) (by decide +kernel), by decide +kernel⟩
set_option maxRecDepth 100000 in
theorem mv_M_layFars : MthV R_M y_M_layFars c_M_layFars 5 (none) 0 := ⟨TB_t7 48 (by decide +kernel) (by decide +kernel), TB_pr (List.mem_of_getElem? (i := 53) (by decide +kernel)) (by decide +kernel), ini_M, TB_t7 49 (by decide +kernel) (by decide +kernel), by decide +kernel⟩
set_option maxRecDepth 100000 in
theorem mv_M_far : MthV R_M y_M_far c_M_far 4 (some .int) 2 := ⟨TB_t7 43 (by decide +kernel) (by decide +kernel), TB_t7 44 (by decide +kernel) (by decide +kernel), ini_M, TB_t7 45 (by decide +kernel) (by decide +kernel), by decide +kernel⟩
set_option maxRecDepth 100000 in
theorem mv_M_worth : MthV R_M y_M_worth c_M_worth 4 (some .int) 2 := ⟨TB_t7 52 (by decide +kernel) (by decide +kernel), TB_t7 53 (by decide +kernel) (by decide +kernel), ini_M, TB_t7 54 (by decide +kernel) (by decide +kernel), by decide +kernel⟩
set_option maxRecDepth 100000 in
theorem mv_M_base : MthV R_M y_M_base c_M_base 4 (some .int) 2 := ⟨TB_t7 56 (by decide +kernel) (by decide +kernel), TB_t7 57 (by decide +kernel) (by decide +kernel), ini_M, TB_t7 58 (by decide +kernel) (by decide +kernel), by decide +kernel⟩
set_option maxRecDepth 100000 in
theorem mv_M_walker : MthV R_M y_M_walker c_M_walker 6 (some .int) 3 := ⟨TB_t7 60 (by decide +kernel) (by decide +kernel), TB_t7 61 (by decide +kernel) (by decide +kernel), ini_M, TB_t7 62 (by decide +kernel) (by decide +kernel), by decide +kernel⟩
set_option maxRecDepth 100000 in
theorem mv_M_isWalker : MthV R_M y_M_isWalker c_M_isWalker 2 (some .boolean) 1 := ⟨TB_t7 73 (by decide +kernel) (by decide +kernel), TB_pr (List.mem_of_getElem? (i := 55) (by decide +kernel)) (by decide +kernel), ini_M, TB_t7 74 (by decide +kernel) (by decide +kernel), by decide +kernel⟩
set_option maxRecDepth 100000 in
theorem mv_M_need : MthV R_M y_M_need c_M_need 3 (some .int) 2 := ⟨TB_t7 69 (by decide +kernel) (by decide +kernel), TB_pr (List.mem_of_getElem? (i := 54) (by decide +kernel)) (by decide +kernel), ini_M, TB_t7 70 (by decide +kernel) (by decide +kernel), by decide +kernel⟩
set_option maxRecDepth 100000 in
theorem mv_M_home : MthV R_M y_M_home c_M_home 3 (some .int) 1 := ⟨TB_t7 64 (by decide +kernel) (by decide +kernel), TB_t7 65 (by decide +kernel) (by decide +kernel), ini_M, TB_t7 66 (by decide +kernel) (by decide +kernel), by decide +kernel⟩
set_option maxRecDepth 100000 in
theorem mv_M_view : MthV R_M y_M_view c_M_view 5 (some .int) 2 := ⟨TB_t7 76 (by decide +kernel) (by decide +kernel), TB_t7 77 (by decide +kernel) (by decide +kernel), ini_M, TB_t7 78 (by decide +kernel) (by decide +kernel), by decide +kernel⟩
set_option maxRecDepth 100000 in
theorem mv_M_lose : MthV R_M y_M_lose c_M_lose 5 (some .int) 2 := ⟨TB_t7 80 (by decide +kernel) (by decide +kernel), TB_t7 81 (by decide +kernel) (by decide +kernel), ini_M, TB_t7 82 (by decide +kernel) (by decide +kernel), by decide +kernel⟩
set_option maxRecDepth 100000 in
theorem mv_M_unitOf : MthV R_M y_M_unitOf c_M_unitOf 2 (some .int) 1 := ⟨TB_t7 93 (by decide +kernel) (by decide +kernel), TB_pr (List.mem_of_getElem? (i := 57) (by decide +kernel)) (by decide +kernel), ini_M, TB_t7 94 (by decide +kernel) (by decide +kernel), by decide +kernel⟩
set_option maxRecDepth 100000 in
theorem mv_M_post : MthV R_M y_M_post c_M_post 3 (some .int) 2 := ⟨TB_t7 105 (by decide +kernel) (by decide +kernel), TB_pr (List.mem_of_getElem? (i := 60) (by decide +kernel)) (by decide +kernel), ini_M, TB_t7 106 (by decide +kernel) (by decide +kernel), by decide +kernel⟩
set_option maxRecDepth 100000 in
theorem mv_M_rest : MthV R_M y_M_rest c_M_rest 3 (some .int) 2 := ⟨TB_t7 121 (by decide +kernel) (by decide +kernel), TB_pr (List.mem_of_getElem? (i := 64) (by decide +kernel)) (by decide +kernel), ini_M, TB_t7 122 (by decide +kernel) (by decide +kernel), by decide +kernel⟩
set_option maxRecDepth 100000 in
theorem mv_M_pair : MthV R_M y_M_pair c_M_pair 3 (some .int) 2 := ⟨TB_t7 109 (by decide +kernel) (by decide +kernel), TB_pr (List.mem_of_getElem? (i := 61) (by decide +kernel)) (by decide +kernel), ini_M, TB_t7 110 (by decide +kernel) (by decide +kernel), by decide +kernel⟩
set_option maxRecDepth 100000 in
theorem mv_M_mostFuel : MthV R_M y_M_mostFuel c_M_mostFuel 7 (some .int) 1 := ⟨TB_t7 113 (by decide +kernel) (by decide +kernel), TB_pr (List.mem_of_getElem? (i := 62) (by decide +kernel)) (by decide +kernel), ini_M, TB_t7 114 (by decide +kernel) (by decide +kernel), by decide +kernel⟩
set_option maxRecDepth 100000 in
theorem mv_M_whyNot : MthV R_M y_M_whyNot c_M_whyNot 7 (some .int) 1 := ⟨TB_t7 101 (by decide +kernel) (by decide +kernel), TB_pr (List.mem_of_getElem? (i := 59) (by decide +kernel)) (by decide +kernel), ini_M, TB_t7 102 (by decide +kernel) (by decide +kernel), by decide +kernel⟩
set_option maxRecDepth 100000 in
theorem mv_M_goes : MthV R_M y_M_goes c_M_goes 2 (some .boolean) 1 := ⟨TB_t7 97 (by decide +kernel) (by decide +kernel), TB_pr (List.mem_of_getElem? (i := 58) (by decide +kernel)) (by decide +kernel), ini_M, TB_t7 98 (by decide +kernel) (by decide +kernel), by decide +kernel⟩
set_option maxRecDepth 100000 in
theorem mv_M_periodOf : MthV R_M y_M_periodOf c_M_periodOf 4 (some .int) 1 := ⟨TB_t7 117 (by decide +kernel) (by decide +kernel), TB_pr (List.mem_of_getElem? (i := 63) (by decide +kernel)) (by decide +kernel), ini_M, TB_t7 118 (by decide +kernel) (by decide +kernel), by decide +kernel⟩
set_option maxRecDepth 100000 in
theorem mv_M_toldOf : MthV R_M y_M_toldOf c_M_toldOf 3 (some .int) 2 := ⟨TB_t7 89 (by decide +kernel) (by decide +kernel), TB_pr (List.mem_of_getElem? (i := 56) (by decide +kernel)) (by decide +kernel), ini_M, TB_t7 90 (by decide +kernel) (by decide +kernel), by decide +kernel⟩
set_option maxRecDepth 100000 in
theorem mv_M_told : MthV R_M y_M_told c_M_told 4 (some .int) 2 := ⟨TB_t7 84 (by decide +kernel) (by decide +kernel), TB_t7 85 (by decide +kernel) (by decide +kernel), ini_M, TB_t7 86 (by decide +kernel) (by decide +kernel), by decide +kernel⟩
set_option maxRecDepth 100000 in
theorem mv_M_mark : MthV R_M y_M_mark c_M_mark 5 (some .int) 2 := ⟨TB_t7 124 (by decide +kernel) (by decide +kernel), TB_t7 125 (by decide +kernel) (by decide +kernel), ini_M, TB_t7 126 (by decide +kernel) (by decide +kernel), by decide +kernel⟩
set_option maxRecDepth 100000 in
theorem mv_M_plan : MthV R_M y_M_plan c_M_plan 9 (some .int) 4 := ⟨TB_t7 128 (by decide +kernel) (by decide +kernel), TB_t7 129 (by decide +kernel) (by decide +kernel), ini_M, TB_t7 130 (by decide +kernel) (by decide +kernel), by decide +kernel⟩
set_option maxRecDepth 100000 in
theorem mv_M_unplan : MthV R_M y_M_unplan c_M_unplan 4 (some .int) 1 := ⟨TB_t7 132 (by decide +kernel) (by decide +kernel), TB_t7 133 (by decide +kernel) (by decide +kernel), ini_M, TB_t7 134 (by decide +kernel) (by decide +kernel), by decide +kernel⟩
set_option maxRecDepth 100000 in
theorem mv_M_planned : MthV R_M y_M_planned c_M_planned 5 (some .int) 3 := ⟨TB_t7 136 (by decide +kernel) (by decide +kernel), TB_t7 137 (by decide +kernel) (by decide +kernel), ini_M, TB_t7 138 (by decide +kernel) (by decide +kernel), by decide +kernel⟩
set_option maxRecDepth 100000 in
theorem mv_M_fit : MthV R_M y_M_fit c_M_fit 3 (some .int) 1 := ⟨TB_t7 140 (by decide +kernel) (by decide +kernel), TB_t7 141 (by decide +kernel) (by decide +kernel), ini_M, TB_t7 142 (by decide +kernel) (by decide +kernel), by decide +kernel⟩
set_option maxRecDepth 100000 in
theorem mv_M_find : MthV R_M y_M_find c_M_find 8 (none) 2 := ⟨TB_t7 150 (by decide +kernel) (by decide +kernel), TB_pr (List.mem_of_getElem? (i := 65) (by decide +kernel)) (by decide +kernel), ini_M, TB_t7 151 (by decide +kernel) (by decide +kernel), by decide +kernel⟩
set_option maxRecDepth 100000 in
theorem mv_M_where : MthV R_M y_M_where c_M_where 5 (some .int) 3 := ⟨TB_t7 144 (by decide +kernel) (by decide +kernel), TB_t7 145 (by decide +kernel) (by decide +kernel), ini_M, TB_t7 146 (by decide +kernel) (by decide +kernel), by decide +kernel⟩
set_option maxRecDepth 100000 in
theorem mv_M_layJoint : MthV R_M y_M_layJoint c_M_layJoint 5 (some .boolean) 0 := ⟨TB_t7 158 (by decide +kernel) (by decide +kernel), TB_pr (List.mem_of_getElem? (i := 66) (by decide +kernel)) (by decide +kernel), ini_M, TB_t7 159 (by decide +kernel) (by decide +kernel), by decide +kernel⟩
set_option maxRecDepth 100000 in
theorem mv_M_viewFrom : MthV R_M y_M_viewFrom c_M_viewFrom 5 (some .int) 2 := ⟨TB_t7 178 (by decide +kernel) (by decide +kernel), TB_pr (List.mem_of_getElem? (i := 69) (by decide +kernel)) (by decide +kernel), ini_M, TB_t7 179 (by decide +kernel) (by decide +kernel), by decide +kernel⟩
set_option maxRecDepth 100000 in
theorem mv_M_lookOut : MthV R_M y_M_lookOut c_M_lookOut 8 (none) 1 := ⟨TB_t7 174 (by decide +kernel) (by decide +kernel), TB_pr (List.mem_of_getElem? (i := 68) (by decide +kernel)) (by decide +kernel), ini_M, TB_t7 175 (by decide +kernel) (by decide +kernel), by decide +kernel⟩
set_option maxRecDepth 100000 in
theorem mv_M_laySeen : MthV R_M y_M_laySeen c_M_laySeen 2 (some .boolean) 0 := ⟨TB_t7 170 (by decide +kernel) (by decide +kernel), TB_pr (List.mem_of_getElem? (i := 67) (by decide +kernel)) (by decide +kernel), ini_M, TB_t7 171 (by decide +kernel) (by decide +kernel), by decide +kernel⟩
set_option maxRecDepth 100000 in
theorem mv_M_joint : MthV R_M y_M_joint c_M_joint 1 (some .int) 0 := ⟨TB_t7 153 (by decide +kernel) (by decide +kernel), TB_t7 154 (by decide +kernel) (by decide +kernel), ini_M, TB_t7 155 (by decide +kernel) (by decide +kernel), by decide +kernel⟩
set_option maxRecDepth 100000 in
theorem mv_M_seen : MthV R_M y_M_seen c_M_seen 5 (some .int) 1 := ⟨TB_t7 165 (by decide +kernel) (by decide +kernel), TB_t7 166 (by decide +kernel) (by decide +kernel), ini_M, TB_t7 167 (by decide +kernel) (by decide +kernel), by decide +kernel⟩
set_option maxRecDepth 100000 in
theorem mv_M_isSeen : MthV R_M y_M_isSeen c_M_isSeen 3 (some .boolean) 2 := ⟨TB_t7 194 (by decide +kernel) (by decide +kernel), TB_pr (List.mem_of_getElem? (i := 72) (by decide +kernel)) (by decide +kernel), ini_M, TB_t7 195 (by decide +kernel) (by decide +kernel), by decide +kernel⟩
set_option maxRecDepth 100000 in
theorem mv_M_layRows : MthV R_M y_M_layRows c_M_layRows 6 (none) 2 := ⟨TB_t7 190 (by decide +kernel) (by decide +kernel), TB_pr (List.mem_of_getElem? (i := 71) (by decide +kernel)) (by decide +kernel), ini_M, TB_t7 191 (by decide +kernel) (by decide +kernel), by decide +kernel⟩
set_option maxRecDepth 100000 in
theorem mv_M_closeRow : MthV R_M y_M_closeRow c_M_closeRow 5 (none) 3 := ⟨TB_t7 198 (by decide +kernel) (by decide +kernel), TB_pr (List.mem_of_getElem? (i := 73) (by decide +kernel)) (by decide +kernel), ini_M, TB_t7 199 (by decide +kernel) (by decide +kernel), by decide +kernel⟩
set_option maxRecDepth 100000 in
theorem mv_M_idle : MthV R_M y_M_idle c_M_idle 2 (some .int) 1 := ⟨TB_t7 185 (by decide +kernel) (by decide +kernel), TB_t7 186 (by decide +kernel) (by decide +kernel), ini_M, TB_t7 187 (by decide +kernel) (by decide +kernel), by decide +kernel⟩
set_option maxRecDepth 100000 in
theorem mv_M_idleFrom : MthV R_M y_M_idleFrom c_M_idleFrom 2 (some .int) 1 := ⟨TB_t7 201 (by decide +kernel) (by decide +kernel), TB_t7 202 (by decide +kernel) (by decide +kernel), ini_M, TB_t7 203 (by decide +kernel) (by decide +kernel), by decide +kernel⟩
set_option maxRecDepth 100000 in
theorem mv_M_layWorst : MthV R_M y_M_layWorst c_M_layWorst 2 (none) 0 := ⟨TB_t7 210 (by decide +kernel) (by decide +kernel), TB_pr (List.mem_of_getElem? (i := 74) (by decide +kernel)) (by decide +kernel), ini_M, TB_t7 211 (by decide +kernel) (by decide +kernel), by decide +kernel⟩
set_option maxRecDepth 100000 in
theorem mv_M_worst : MthV R_M y_M_worst c_M_worst 1 (some .int) 0 := ⟨TB_t7 205 (by decide +kernel) (by decide +kernel), TB_t7 206 (by decide +kernel) (by decide +kernel), ini_M, TB_t7 207 (by decide +kernel) (by decide +kernel), by decide +kernel⟩
set_option maxRecDepth 100000 in
theorem mv_M_share : MthV R_M y_M_share c_M_share 4 (some .int) 1 := ⟨TB_t7 213 (by decide +kernel) (by decide +kernel), TB_t7 214 (by decide +kernel) (by decide +kernel), ini_M, TB_t7 215 (by decide +kernel) (by decide +kernel), by decide +kernel⟩
set_option maxRecDepth 100000 in
theorem mv_M_isNeed : MthS y_M_isNeed c_M_isNeed 1 (some .boolean) 1 := ⟨TB_t7 225 (by decide +kernel) (by decide +kernel), ini_M, TB_t7 226 (by decide +kernel) (by decide +kernel), by decide +kernel⟩
set_option maxRecDepth 100000 in
theorem mv_M_chance : MthV R_M y_M_chance c_M_chance 3 (some .int) 2 := ⟨TB_t7 221 (by decide +kernel) (by decide +kernel), TB_t7 222 (by decide +kernel) (by decide +kernel), ini_M, TB_t7 223 (by decide +kernel) (by decide +kernel), by decide +kernel⟩
set_option maxRecDepth 100000 in
theorem mv_M_thief : MthV R_M y_M_thief c_M_thief 5 (some .int) 1 := ⟨TB_t7 228 (by decide +kernel) (by decide +kernel), TB_t7 229 (by decide +kernel) (by decide +kernel), ini_M, TB_t7 230 (by decide +kernel) (by decide +kernel), by decide +kernel⟩
set_option maxRecDepth 100000 in
theorem mv_M_safe : MthV R_M y_M_safe c_M_safe 3 (some .int) 0 := ⟨TB_t7 232 (by decide +kernel) (by decide +kernel), TB_t7 233 (by decide +kernel) (by decide +kernel), ini_M, TB_t7 234 (by decide +kernel) (by decide +kernel), by decide +kernel⟩
set_option maxRecDepth 100000 in
theorem mv_M_bitsOf : MthS y_M_bitsOf c_M_bitsOf 3 (some .int) 1 := ⟨TB_t8 0 (by decide +kernel) (by decide +kernel), ini_M, TB_t8 1 (by decide +kernel) (by decide +kernel), by decide +kernel⟩
set_option maxRecDepth 100000 in
theorem mv_M_peril : MthV R_M y_M_peril c_M_peril 9 (some .int) 1 := ⟨TB_t7 236 (by decide +kernel) (by decide +kernel), TB_t7 237 (by decide +kernel) (by decide +kernel), ini_M, TB_t7 238 (by decide +kernel) (by decide +kernel), by decide +kernel⟩
set_option maxRecDepth 100000 in
theorem mv_M_walk : MthV R_M y_M_walk c_M_walk 13 (none) 3 := ⟨TB_t8 29 (by decide +kernel) (by decide +kernel), TB_pr (List.mem_of_getElem? (i := 81) (by decide +kernel)) (by decide +kernel), ini_M, TB_t8 30 (by decide +kernel) (by decide +kernel), by decide +kernel⟩
set_option maxRecDepth 100000 in
theorem mv_M_areTogether : MthV R_M y_M_areTogether c_M_areTogether 8 (some .boolean) 3 := ⟨TB_t8 25 (by decide +kernel) (by decide +kernel), TB_pr (List.mem_of_getElem? (i := 80) (by decide +kernel)) (by decide +kernel), ini_M, TB_t8 26 (by decide +kernel) (by decide +kernel), by decide +kernel⟩
set_option maxRecDepth 100000 in
theorem mv_M_jointOf : MthV R_M y_M_jointOf c_M_jointOf 7 (some .long) 2 := ⟨TB_t8 16 (by decide +kernel) (by decide +kernel), TB_pr (List.mem_of_getElem? (i := 78) (by decide +kernel)) (by decide +kernel), ini_M, TB_t8 17 (by decide +kernel) (by decide +kernel), by decide +kernel⟩
set_option maxRecDepth 100000 in
theorem mv_M_meetFrom : MthV R_M y_M_meetFrom c_M_meetFrom 19 (some .long) 3 := ⟨TB_t8 21 (by decide +kernel) (by decide +kernel), TB_pr (List.mem_of_getElem? (i := 79) (by decide +kernel)) (by decide +kernel), ini_M, TB_t8 22 (by decide +kernel) (by decide +kernel), by decide +kernel⟩
set_option maxRecDepth 100000 in
theorem mv_M_needTwo : MthV R_M y_M_needTwo c_M_needTwo 5 (some .int) 4 := ⟨TB_t8 8 (by decide +kernel) (by decide +kernel), TB_pr (List.mem_of_getElem? (i := 76) (by decide +kernel)) (by decide +kernel), ini_M, TB_t8 9 (by decide +kernel) (by decide +kernel), by decide +kernel⟩
set_option maxRecDepth 100000 in
theorem mv_M_areShort : MthV R_M y_M_areShort c_M_areShort 4 (some .boolean) 0 := ⟨TB_t8 12 (by decide +kernel) (by decide +kernel), TB_pr (List.mem_of_getElem? (i := 77) (by decide +kernel)) (by decide +kernel), ini_M, TB_t8 13 (by decide +kernel) (by decide +kernel), by decide +kernel⟩
set_option maxRecDepth 100000 in
theorem mv_M_meet : MthV R_M y_M_meet c_M_meet 7 (some .int) 3 := ⟨TB_t8 3 (by decide +kernel) (by decide +kernel), TB_t8 4 (by decide +kernel) (by decide +kernel), ini_M, TB_t8 5 (by decide +kernel) (by decide +kernel), by decide +kernel⟩
set_option maxRecDepth 100000 in
theorem mv_M_layWord : MthV R_M y_M_layWord c_M_layWord 7 (none) 2 := ⟨TB_t8 42 (by decide +kernel) (by decide +kernel), TB_pr (List.mem_of_getElem? (i := 83) (by decide +kernel)) (by decide +kernel), ini_M, TB_t8 43 (by decide +kernel) (by decide +kernel), by decide +kernel⟩
set_option maxRecDepth 100000 in
theorem mv_M_word : MthV R_M y_M_word c_M_word 5 (some .int) 3 := ⟨TB_t8 33 (by decide +kernel) (by decide +kernel), TB_t8 34 (by decide +kernel) (by decide +kernel), ini_M, TB_t8 35 (by decide +kernel) (by decide +kernel), by decide +kernel⟩
set_option maxRecDepth 100000 in
theorem mv_M_needOne : MthV R_M y_M_needOne c_M_needOne 4 (some .int) 2 := ⟨TB_t8 38 (by decide +kernel) (by decide +kernel), TB_pr (List.mem_of_getElem? (i := 82) (by decide +kernel)) (by decide +kernel), ini_M, TB_t8 39 (by decide +kernel) (by decide +kernel), by decide +kernel⟩
set_option maxRecDepth 100000 in
theorem mv_M_spread : MthV R_M y_M_spread c_M_spread 6 (some .int) 2 := ⟨TB_t8 45 (by decide +kernel) (by decide +kernel), TB_t8 46 (by decide +kernel) (by decide +kernel), ini_M, TB_t8 47 (by decide +kernel) (by decide +kernel), by decide +kernel⟩
set_option maxRecDepth 100000 in
theorem mv_M_restOf : MthV R_M y_M_restOf c_M_restOf 3 (some .int) 2 := ⟨TB_t8 62 (by decide +kernel) (by decide +kernel), TB_pr (List.mem_of_getElem? (i := 86) (by decide +kernel)) (by decide +kernel), ini_M, TB_t8 63 (by decide +kernel) (by decide +kernel), by decide +kernel⟩
set_option maxRecDepth 100000 in
theorem mv_M_hop : MthV R_M y_M_hop c_M_hop 3 (some .int) 2 := ⟨TB_t8 58 (by decide +kernel) (by decide +kernel), TB_pr (List.mem_of_getElem? (i := 85) (by decide +kernel)) (by decide +kernel), ini_M, TB_t8 59 (by decide +kernel) (by decide +kernel), by decide +kernel⟩
set_option maxRecDepth 100000 in
theorem mv_M_layRound : MthV R_M y_M_layRound c_M_layRound 7 (some .boolean) 0 := ⟨TB_t8 54 (by decide +kernel) (by decide +kernel), TB_pr (List.mem_of_getElem? (i := 84) (by decide +kernel)) (by decide +kernel), ini_M, TB_t8 55 (by decide +kernel) (by decide +kernel), by decide +kernel⟩
set_option maxRecDepth 100000 in
theorem mv_M_roundLength : MthV R_M y_M_roundLength c_M_roundLength 1 (some .int) 0 := ⟨TB_t8 66 (by decide +kernel) (by decide +kernel), TB_pr (List.mem_of_getElem? (i := 87) (by decide +kernel)) (by decide +kernel), ini_M, TB_t8 67 (by decide +kernel) (by decide +kernel), by decide +kernel⟩
set_option maxRecDepth 100000 in
theorem mv_M_round : MthV R_M y_M_round c_M_round 2 (some .int) 0 := ⟨TB_t8 49 (by decide +kernel) (by decide +kernel), TB_t8 50 (by decide +kernel) (by decide +kernel), ini_M, TB_t8 51 (by decide +kernel) (by decide +kernel), by decide +kernel⟩
set_option maxRecDepth 100000 in
theorem mv_M_roundAt : MthV R_M y_M_roundAt c_M_roundAt 6 (some .int) 1 := ⟨TB_t8 69 (by decide +kernel) (by decide +kernel), TB_t8 70 (by decide +kernel) (by decide +kernel), ini_M, TB_t8 71 (by decide +kernel) (by decide +kernel), by decide +kernel⟩
set_option maxRecDepth 100000 in
theorem mv_M_part : MthV R_M y_M_part c_M_part 11 (none) 5 := ⟨TB_t8 78 (by decide +kernel) (by decide +kernel), TB_pr (List.mem_of_getElem? (i := 88) (by decide +kernel)) (by decide +kernel), ini_M, TB_t8 79 (by decide +kernel) (by decide +kernel), by decide +kernel⟩
set_option maxRecDepth 100000 in
theorem mv_M_parting : MthV R_M y_M_parting c_M_parting 3 (some .int) 0 := ⟨TB_t8 73 (by decide +kernel) (by decide +kernel), TB_t8 74 (by decide +kernel) (by decide +kernel), ini_M, TB_t8 75 (by decide +kernel) (by decide +kernel), by decide +kernel⟩
set_option maxRecDepth 100000 in
theorem mv_M_partOf : MthV R_M y_M_partOf c_M_partOf 3 (some .int) 2 := ⟨TB_t8 81 (by decide +kernel) (by decide +kernel), TB_t8 82 (by decide +kernel) (by decide +kernel), ini_M, TB_t8 83 (by decide +kernel) (by decide +kernel), by decide +kernel⟩
set_option maxRecDepth 100000 in
theorem mv_M_fuel : MthV R_M y_M_fuel c_M_fuel 3 (some .int) 1 := ⟨TB_t8 85 (by decide +kernel) (by decide +kernel), TB_t8 86 (by decide +kernel) (by decide +kernel), ini_M, TB_t8 87 (by decide +kernel) (by decide +kernel), by decide +kernel⟩
set_option maxRecDepth 100000 in
theorem mv_M_tellsCount : MthV R_M y_M_tellsCount c_M_tellsCount 4 (some .int) 1 := ⟨TB_t8 94 (by decide +kernel) (by decide +kernel), TB_pr (List.mem_of_getElem? (i := 89) (by decide +kernel)) (by decide +kernel), ini_M, TB_t8 95 (by decide +kernel) (by decide +kernel), by decide +kernel⟩
set_option maxRecDepth 100000 in
theorem mv_M_count : MthV R_M y_M_count c_M_count 2 (some .int) 1 := ⟨TB_t8 89 (by decide +kernel) (by decide +kernel), TB_t8 90 (by decide +kernel) (by decide +kernel), ini_M, TB_t8 91 (by decide +kernel) (by decide +kernel), by decide +kernel⟩
set_option maxRecDepth 100000 in
theorem mv_M_digest : MthV R_M y_M_digest c_M_digest 6 (some .long) 0 := ⟨TB_t8 97 (by decide +kernel) (by decide +kernel), TB_t8 98 (by decide +kernel) (by decide +kernel), ini_M, TB_t8 99 (by decide +kernel) (by decide +kernel), by decide +kernel⟩
set_option maxRecDepth 100000 in
theorem mv_Ji_numberOfTrailingZeros_0f7a4 : MthS y_Ji_numberOfTrailingZeros_0f7a4 c_Ji_numberOfTrailingZeros_0f7a4 2 (some .int) 1 := ⟨TB_t4 160 (by decide +kernel) (by decide +kernel), ini_Ji, TB_t4 161 (by decide +kernel) (by decide +kernel), by decide +kernel⟩
set_option maxRecDepth 100000 in
theorem mv_Ji_bitCount_0f7a4 : MthS y_Ji_bitCount_0f7a4 c_Ji_bitCount_0f7a4 1 (some .int) 1 := ⟨TB_t4 64 (by decide +kernel) (by decide +kernel), ini_Ji, TB_t4 65 (by decide +kernel) (by decide +kernel), by decide +kernel⟩
set_option maxRecDepth 100000 in
theorem mv_Jm_floorMod_7cf53 : MthS y_Jm_floorMod_7cf53 c_Jm_floorMod_7cf53 3 (some .int) 2 := ⟨TB_t4 33 (by decide +kernel) (by decide +kernel), ini_Jm, TB_t4 34 (by decide +kernel) (by decide +kernel), by decide +kernel⟩
set_option maxRecDepth 100000 in
theorem mv_Jm_floorMod_f86c9 : MthS y_Jm_floorMod_f86c9 c_Jm_floorMod_f86c9 6 (some .long) 2 := ⟨TB_t5 24 (by decide +kernel) (by decide +kernel), ini_Jm, TB_t5 25 (by decide +kernel) (by decide +kernel), by decide +kernel⟩
set_option maxRecDepth 100000 in
theorem mv_Jm_max_7cf53 : MthS y_Jm_max_7cf53 c_Jm_max_7cf53 2 (some .int) 2 := ⟨TB_t3 190 (by decide +kernel) (by decide +kernel), ini_Jm, TB_t3 191 (by decide +kernel) (by decide +kernel), by decide +kernel⟩
set_option maxRecDepth 100000 in
theorem mv_Jm_max_f86c9 : MthS y_Jm_max_f86c9 c_Jm_max_f86c9 4 (some .long) 2 := ⟨TB_t5 33 (by decide +kernel) (by decide +kernel), ini_Jm, TB_t5 34 (by decide +kernel) (by decide +kernel), by decide +kernel⟩
set_option maxRecDepth 100000 in
theorem mv_Jm_min_7cf53 : MthS y_Jm_min_7cf53 c_Jm_min_7cf53 2 (some .int) 2 := ⟨TB_t3 239 (by decide +kernel) (by decide +kernel), ini_Jm, TB_t4 0 (by decide +kernel) (by decide +kernel), by decide +kernel⟩
set_option maxRecDepth 100000 in
theorem mv_Jm_min_f86c9 : MthS y_Jm_min_f86c9 c_Jm_min_f86c9 4 (some .long) 2 := ⟨TB_t5 41 (by decide +kernel) (by decide +kernel), ini_Jm, TB_t5 42 (by decide +kernel) (by decide +kernel), by decide +kernel⟩
set_option maxRecDepth 100000 in
theorem ac_l_Sf_23 : Cond.methodLink R_Sf 23 arraycopyName ∈ TB := TB_t3 22 (by decide +kernel) (by decide +kernel)
set_option maxRecDepth 100000 in
theorem ac_n : Cond.native arraycopyName ∈ TB := TB_t3 24 (by decide +kernel) (by decide +kernel)
set_option maxRecDepth 100000 in
theorem ac_s : Cond.static arraycopyName ∈ TB := TB_t3 23 (by decide +kernel) (by decide +kernel)
