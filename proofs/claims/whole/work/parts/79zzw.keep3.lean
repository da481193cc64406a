/-! THE FIRST KEEP makes a Land. -/
theorem pc_ch_173 : pm_chain (pm_code 173) = true := by decide +kernel
def cbT_158 (L : Nat) : Nat → Nat × Nat := pm_Tb L false
def cbO_0 : Nat → Nat → Nat := pm_Ob false
def cbI_0 (I : Nat → Nat → Int32) : Nat → Nat → Int32 := I
def cbJ_0 (J : Nat → Nat → Int64) : Nat → Nat → Int64 := J
def cbT_159 (L : Nat) : Nat → Nat × Nat := pm_t (cbT_158 L) 158 (0, 3)
def cbO_1 : Nat → Nat → Nat := pm_z cbO_0 158 0
def cbI_1 (I : Nat → Nat → Int32) : Nat → Nat → Int32 := pm_z (cbI_0 I) 158 0
def cbJ_1 (J : Nat → Nat → Int64) : Nat → Nat → Int64 := pm_z (cbJ_0 J) 158 0
def cbT_160 (L : Nat) : Nat → Nat × Nat := pm_t (cbT_159 L) 159 (0, 8)
def cbO_2 : Nat → Nat → Nat := pm_z cbO_1 159 0
def cbI_2 (I : Nat → Nat → Int32) : Nat → Nat → Int32 := pm_z (cbI_1 I) 159 0
def cbJ_2 (J : Nat → Nat → Int64) : Nat → Nat → Int64 := pm_z (cbJ_1 J) 159 0
def cbI_3 (I : Nat → Nat → Int32) : Nat → Nat → Int32 := pm_u (cbI_2 I) 159 2 10
def cbI_4 (I : Nat → Nat → Int32) : Nat → Nat → Int32 := pm_u (cbI_3 I) 159 1 10
def cbT_161 (L : Nat) : Nat → Nat × Nat := pm_t (cbT_160 L) 160 (1, 100)
def cbO_3 : Nat → Nat → Nat := pm_z cbO_2 160 0
def cbI_5 (I : Nat → Nat → Int32) : Nat → Nat → Int32 := pm_z (cbI_4 I) 160 0
def cbJ_3 (J : Nat → Nat → Int64) : Nat → Nat → Int64 := pm_z (cbJ_2 J) 160 0
def cbO_4 : Nat → Nat → Nat := pm_u cbO_3 159 0 160
def cbO_5 : Nat → Nat → Nat := pm_u cbO_4 158 1 159
def cbT_162 (L : Nat) : Nat → Nat × Nat := pm_t (cbT_161 L) 161 (0, 8)
def cbO_6 : Nat → Nat → Nat := pm_z cbO_5 161 0
def cbI_6 (I : Nat → Nat → Int32) : Nat → Nat → Int32 := pm_z (cbI_5 I) 161 0
def cbJ_4 (J : Nat → Nat → Int64) : Nat → Nat → Int64 := pm_z (cbJ_3 J) 161 0
def cbI_7 (I : Nat → Nat → Int32) : Nat → Nat → Int32 := pm_u (cbI_6 I) 161 2 16
def cbI_8 (I : Nat → Nat → Int32) : Nat → Nat → Int32 := pm_u (cbI_7 I) 161 1 2
def cbT_163 (L : Nat) : Nat → Nat × Nat := pm_t (cbT_162 L) 162 (1, 32)
def cbO_7 : Nat → Nat → Nat := pm_z cbO_6 162 0
def cbI_9 (I : Nat → Nat → Int32) : Nat → Nat → Int32 := pm_z (cbI_8 I) 162 0
def cbJ_5 (J : Nat → Nat → Int64) : Nat → Nat → Int64 := pm_z (cbJ_4 J) 162 0
def cbO_8 : Nat → Nat → Nat := pm_u cbO_7 161 0 162
def cbO_9 : Nat → Nat → Nat := pm_u cbO_8 158 2 161
def cbT_164 (L : Nat) : Nat → Nat × Nat := pm_t (cbT_163 L) 163 (0, 8)
def cbO_10 : Nat → Nat → Nat := pm_z cbO_9 163 0
def cbI_10 (I : Nat → Nat → Int32) : Nat → Nat → Int32 := pm_z (cbI_9 I) 163 0
def cbJ_6 (J : Nat → Nat → Int64) : Nat → Nat → Int64 := pm_z (cbJ_5 J) 163 0
def cbI_11 (I : Nat → Nat → Int32) : Nat → Nat → Int32 := pm_u (cbI_10 I) 163 2 8
def cbI_12 (I : Nat → Nat → Int32) : Nat → Nat → Int32 := pm_u (cbI_11 I) 163 1 10
def cbT_165 (L : Nat) : Nat → Nat × Nat := pm_t (cbT_164 L) 164 (1, 80)
def cbO_11 : Nat → Nat → Nat := pm_z cbO_10 164 0
def cbI_13 (I : Nat → Nat → Int32) : Nat → Nat → Int32 := pm_z (cbI_12 I) 164 0
def cbJ_7 (J : Nat → Nat → Int64) : Nat → Nat → Int64 := pm_z (cbJ_6 J) 164 0
def cbO_12 : Nat → Nat → Nat := pm_u cbO_11 163 0 164
def cbO_13 : Nat → Nat → Nat := pm_u cbO_12 158 3 163
def cbT_166 (L : Nat) : Nat → Nat × Nat := pm_t (cbT_165 L) 165 (0, 8)
def cbO_14 : Nat → Nat → Nat := pm_z cbO_13 165 0
def cbI_14 (I : Nat → Nat → Int32) : Nat → Nat → Int32 := pm_z (cbI_13 I) 165 0
def cbJ_8 (J : Nat → Nat → Int64) : Nat → Nat → Int64 := pm_z (cbJ_7 J) 165 0
def cbI_15 (I : Nat → Nat → Int32) : Nat → Nat → Int32 := pm_u (cbI_14 I) 165 2 24
def cbI_16 (I : Nat → Nat → Int32) : Nat → Nat → Int32 := pm_u (cbI_15 I) 165 1 5
def cbT_167 (L : Nat) : Nat → Nat × Nat := pm_t (cbT_166 L) 166 (1, 120)
def cbO_15 : Nat → Nat → Nat := pm_z cbO_14 166 0
def cbI_17 (I : Nat → Nat → Int32) : Nat → Nat → Int32 := pm_z (cbI_16 I) 166 0
def cbJ_9 (J : Nat → Nat → Int64) : Nat → Nat → Int64 := pm_z (cbJ_8 J) 166 0
def cbO_16 : Nat → Nat → Nat := pm_u cbO_15 165 0 166
def cbO_17 : Nat → Nat → Nat := pm_u cbO_16 158 4 165
def cbT_168 (L : Nat) : Nat → Nat × Nat := pm_t (cbT_167 L) 167 (0, 8)
def cbO_18 : Nat → Nat → Nat := pm_z cbO_17 167 0
def cbI_18 (I : Nat → Nat → Int32) : Nat → Nat → Int32 := pm_z (cbI_17 I) 167 0
def cbJ_10 (J : Nat → Nat → Int64) : Nat → Nat → Int64 := pm_z (cbJ_9 J) 167 0
def cbI_19 (I : Nat → Nat → Int32) : Nat → Nat → Int32 := pm_u (cbI_18 I) 167 2 24
def cbI_20 (I : Nat → Nat → Int32) : Nat → Nat → Int32 := pm_u (cbI_19 I) 167 1 16
def cbT_169 (L : Nat) : Nat → Nat × Nat := pm_t (cbT_168 L) 168 (1, 384)
def cbO_19 : Nat → Nat → Nat := pm_z cbO_18 168 0
def cbI_21 (I : Nat → Nat → Int32) : Nat → Nat → Int32 := pm_z (cbI_20 I) 168 0
def cbJ_11 (J : Nat → Nat → Int64) : Nat → Nat → Int64 := pm_z (cbJ_10 J) 168 0
def cbO_20 : Nat → Nat → Nat := pm_u cbO_19 167 0 168
def cbO_21 : Nat → Nat → Nat := pm_u cbO_20 158 5 167
def cbT_170 (L : Nat) : Nat → Nat × Nat := pm_t (cbT_169 L) 169 (0, 8)
def cbO_22 : Nat → Nat → Nat := pm_z cbO_21 169 0
def cbI_22 (I : Nat → Nat → Int32) : Nat → Nat → Int32 := pm_z (cbI_21 I) 169 0
def cbJ_12 (J : Nat → Nat → Int64) : Nat → Nat → Int64 := pm_z (cbJ_11 J) 169 0
def cbI_23 (I : Nat → Nat → Int32) : Nat → Nat → Int32 := pm_u (cbI_22 I) 169 2 12
def cbI_24 (I : Nat → Nat → Int32) : Nat → Nat → Int32 := pm_u (cbI_23 I) 169 1 5
def cbT_171 (L : Nat) : Nat → Nat × Nat := pm_t (cbT_170 L) 170 (1, 60)
def cbO_23 : Nat → Nat → Nat := pm_z cbO_22 170 0
def cbI_25 (I : Nat → Nat → Int32) : Nat → Nat → Int32 := pm_z (cbI_24 I) 170 0
def cbJ_13 (J : Nat → Nat → Int64) : Nat → Nat → Int64 := pm_z (cbJ_12 J) 170 0
def cbO_24 : Nat → Nat → Nat := pm_u cbO_23 169 0 170
def cbO_25 : Nat → Nat → Nat := pm_u cbO_24 158 6 169
def cbT_172 (L : Nat) : Nat → Nat × Nat := pm_t (cbT_171 L) 171 (0, 8)
def cbO_26 : Nat → Nat → Nat := pm_z cbO_25 171 0
def cbI_26 (I : Nat → Nat → Int32) : Nat → Nat → Int32 := pm_z (cbI_25 I) 171 0
def cbJ_14 (J : Nat → Nat → Int64) : Nat → Nat → Int64 := pm_z (cbJ_13 J) 171 0
def cbI_27 (I : Nat → Nat → Int32) : Nat → Nat → Int32 := pm_u (cbI_26 I) 171 2 120
def cbI_28 (I : Nat → Nat → Int32) : Nat → Nat → Int32 := pm_u (cbI_27 I) 171 1 5
def cbT_173 (L : Nat) : Nat → Nat × Nat := pm_t (cbT_172 L) 172 (1, 600)
def cbO_27 : Nat → Nat → Nat := pm_z cbO_26 172 0
def cbI_29 (I : Nat → Nat → Int32) : Nat → Nat → Int32 := pm_z (cbI_28 I) 172 0
def cbJ_15 (J : Nat → Nat → Int64) : Nat → Nat → Int64 := pm_z (cbJ_14 J) 172 0
def cbO_28 : Nat → Nat → Nat := pm_u cbO_27 171 0 172
def cbO_29 : Nat → Nat → Nat := pm_u cbO_28 158 7 171
def cbT_174 (L : Nat) : Nat → Nat × Nat := pm_t (cbT_173 L) 173 (0, 8)
def cbO_30 : Nat → Nat → Nat := pm_z cbO_29 173 0
def cbI_30 (I : Nat → Nat → Int32) : Nat → Nat → Int32 := pm_z (cbI_29 I) 173 0
def cbJ_16 (J : Nat → Nat → Int64) : Nat → Nat → Int64 := pm_z (cbJ_15 J) 173 0
def cbI_31 (I : Nat → Nat → Int32) : Nat → Nat → Int32 := pm_u (cbI_30 I) 173 2 1200
def cbI_32 (I : Nat → Nat → Int32) : Nat → Nat → Int32 := pm_u (cbI_31 I) 173 1 2
def cbT_175 (L : Nat) : Nat → Nat × Nat := pm_t (cbT_174 L) 174 (1, 2400)
def cbO_31 : Nat → Nat → Nat := pm_z cbO_30 174 0
def cbI_33 (I : Nat → Nat → Int32) : Nat → Nat → Int32 := pm_z (cbI_32 I) 174 0
def cbJ_17 (J : Nat → Nat → Int64) : Nat → Nat → Int64 := pm_z (cbJ_16 J) 174 0
def cbO_32 : Nat → Nat → Nat := pm_u cbO_31 173 0 174
def cbO_33 : Nat → Nat → Nat := pm_u cbO_32 158 8 173
def cbT_176 (L : Nat) : Nat → Nat × Nat := pm_t (cbT_175 L) 175 (0, 8)
def cbO_34 : Nat → Nat → Nat := pm_z cbO_33 175 0
def cbI_34 (I : Nat → Nat → Int32) : Nat → Nat → Int32 := pm_z (cbI_33 I) 175 0
def cbJ_18 (J : Nat → Nat → Int64) : Nat → Nat → Int64 := pm_z (cbJ_17 J) 175 0
def cbI_35 (I : Nat → Nat → Int32) : Nat → Nat → Int32 := pm_u (cbI_34 I) 175 2 4
def cbI_36 (I : Nat → Nat → Int32) : Nat → Nat → Int32 := pm_u (cbI_35 I) 175 1 1
def cbT_177 (L : Nat) : Nat → Nat × Nat := pm_t (cbT_176 L) 176 (1, 4)
def cbO_35 : Nat → Nat → Nat := pm_z cbO_34 176 0
def cbI_37 (I : Nat → Nat → Int32) : Nat → Nat → Int32 := pm_z (cbI_36 I) 176 0
def cbJ_19 (J : Nat → Nat → Int64) : Nat → Nat → Int64 := pm_z (cbJ_18 J) 176 0
def cbO_36 : Nat → Nat → Nat := pm_u cbO_35 175 0 176
def cbO_37 : Nat → Nat → Nat := pm_u cbO_36 158 9 175
def cbT_178 (L : Nat) : Nat → Nat × Nat := pm_t (cbT_177 L) 177 (0, 8)
def cbO_38 : Nat → Nat → Nat := pm_z cbO_37 177 0
def cbI_38 (I : Nat → Nat → Int32) : Nat → Nat → Int32 := pm_z (cbI_37 I) 177 0
def cbJ_20 (J : Nat → Nat → Int64) : Nat → Nat → Int64 := pm_z (cbJ_19 J) 177 0
def cbI_39 (I : Nat → Nat → Int32) : Nat → Nat → Int32 := pm_u (cbI_38 I) 177 2 24
def cbI_40 (I : Nat → Nat → Int32) : Nat → Nat → Int32 := pm_u (cbI_39 I) 177 1 3
def cbT_179 (L : Nat) : Nat → Nat × Nat := pm_t (cbT_178 L) 178 (1, 72)
def cbO_39 : Nat → Nat → Nat := pm_z cbO_38 178 0
def cbI_41 (I : Nat → Nat → Int32) : Nat → Nat → Int32 := pm_z (cbI_40 I) 178 0
def cbJ_21 (J : Nat → Nat → Int64) : Nat → Nat → Int64 := pm_z (cbJ_20 J) 178 0
def cbO_40 : Nat → Nat → Nat := pm_u cbO_39 177 0 178
def cbO_41 : Nat → Nat → Nat := pm_u cbO_40 158 10 177
def cbT_180 (L : Nat) : Nat → Nat × Nat := pm_t (cbT_179 L) 179 (0, 8)
def cbO_42 : Nat → Nat → Nat := pm_z cbO_41 179 0
def cbI_42 (I : Nat → Nat → Int32) : Nat → Nat → Int32 := pm_z (cbI_41 I) 179 0
def cbJ_22 (J : Nat → Nat → Int64) : Nat → Nat → Int64 := pm_z (cbJ_21 J) 179 0
def cbI_43 (I : Nat → Nat → Int32) : Nat → Nat → Int32 := pm_u (cbI_42 I) 179 2 7
def cbI_44 (I : Nat → Nat → Int32) : Nat → Nat → Int32 := pm_u (cbI_43 I) 179 1 1
def cbT_181 (L : Nat) : Nat → Nat × Nat := pm_t (cbT_180 L) 180 (1, 7)
def cbO_43 : Nat → Nat → Nat := pm_z cbO_42 180 0
def cbI_45 (I : Nat → Nat → Int32) : Nat → Nat → Int32 := pm_z (cbI_44 I) 180 0
def cbJ_23 (J : Nat → Nat → Int64) : Nat → Nat → Int64 := pm_z (cbJ_22 J) 180 0
def cbO_44 : Nat → Nat → Nat := pm_u cbO_43 179 0 180
def cbO_45 : Nat → Nat → Nat := pm_u cbO_44 158 11 179
def cbT_182 (L : Nat) : Nat → Nat × Nat := pm_t (cbT_181 L) 181 (0, 8)
def cbO_46 : Nat → Nat → Nat := pm_z cbO_45 181 0
def cbI_46 (I : Nat → Nat → Int32) : Nat → Nat → Int32 := pm_z (cbI_45 I) 181 0
def cbJ_24 (J : Nat → Nat → Int64) : Nat → Nat → Int64 := pm_z (cbJ_23 J) 181 0
def cbI_47 (I : Nat → Nat → Int32) : Nat → Nat → Int32 := pm_u (cbI_46 I) 181 2 3
def cbI_48 (I : Nat → Nat → Int32) : Nat → Nat → Int32 := pm_u (cbI_47 I) 181 1 1
def cbT_183 (L : Nat) : Nat → Nat × Nat := pm_t (cbT_182 L) 182 (1, 3)
def cbO_47 : Nat → Nat → Nat := pm_z cbO_46 182 0
def cbI_49 (I : Nat → Nat → Int32) : Nat → Nat → Int32 := pm_z (cbI_48 I) 182 0
def cbJ_25 (J : Nat → Nat → Int64) : Nat → Nat → Int64 := pm_z (cbJ_24 J) 182 0
def cbO_48 : Nat → Nat → Nat := pm_u cbO_47 181 0 182
def cbO_49 : Nat → Nat → Nat := pm_u cbO_48 158 12 181
def cbT_184 (L : Nat) : Nat → Nat × Nat := pm_t (cbT_183 L) 183 (0, 8)
def cbO_50 : Nat → Nat → Nat := pm_z cbO_49 183 0
def cbI_50 (I : Nat → Nat → Int32) : Nat → Nat → Int32 := pm_z (cbI_49 I) 183 0
def cbJ_26 (J : Nat → Nat → Int64) : Nat → Nat → Int64 := pm_z (cbJ_25 J) 183 0
def cbI_51 (I : Nat → Nat → Int32) : Nat → Nat → Int32 := pm_u (cbI_50 I) 183 2 24
def cbI_52 (I : Nat → Nat → Int32) : Nat → Nat → Int32 := pm_u (cbI_51 I) 183 1 6
def cbT_185 (L : Nat) : Nat → Nat × Nat := pm_t (cbT_184 L) 184 (1, 144)
def cbO_51 : Nat → Nat → Nat := pm_z cbO_50 184 0
def cbI_53 (I : Nat → Nat → Int32) : Nat → Nat → Int32 := pm_z (cbI_52 I) 184 0
def cbJ_27 (J : Nat → Nat → Int64) : Nat → Nat → Int64 := pm_z (cbJ_26 J) 184 0
def cbO_52 : Nat → Nat → Nat := pm_u cbO_51 183 0 184
def cbO_53 : Nat → Nat → Nat := pm_u cbO_52 158 13 183
def cbI_54 (I : Nat → Nat → Int32) : Nat → Nat → Int32 := pm_u (cbI_53 I) 175 3 4
def cbI_55 (I : Nat → Nat → Int32) : Nat → Nat → Int32 := pm_u (cbI_54 I) 159 3 10
def cbI_56 (I : Nat → Nat → Int32) : Nat → Nat → Int32 := pc_rd (cbI_55 I) 160 100
def cbO_54 : Nat → Nat → Nat := pm_u cbO_53 8 9 158
theorem cb_c1_s0 {d L : Nat} {I : Nat → Nat → Int32} {J : Nat → Nat → Int64} {Q : Int32 → Int64 → pm_H → Prop} : pm_wc pm_code pm_meta d 173 [.ref 8] ((cbT_158 L, cbO_0, 158, 15475), cbI_0 I, cbJ_0 J) Q ↔ pm_wp pm_code pm_meta d 173 7 ([.ref 8], [], ((cbT_158 L, cbO_0, 158, 15475), cbI_0 I, cbJ_0 J)) Q := (pm_bk_iff pc_ch_173 3 0 _).trans (⟨fun h => h.2 rfl, fun h => ⟨fun q => absurd (show (false : Bool) = true from q) Bool.false_ne_true, fun _ => h⟩⟩)
theorem cb_c1_s1 {d L : Nat} {I : Nat → Nat → Int32} {J : Nat → Nat → Int64} {Q : Int32 → Int64 → pm_H → Prop} : pm_wp pm_code pm_meta (d + 1) 173 7 ([.ref 8], [], ((cbT_158 L, cbO_0, 158, 15475), cbI_0 I, cbJ_0 J)) Q ↔ pm_wc pm_code pm_meta d 25 [.ref 158] ((cbT_159 L, cbO_1, 159, 15489), cbI_1 I, cbJ_1 J) (fun v w H => pm_wp pm_code pm_meta (d + 1) 173 15 ([.ref 8], [.ref 158, .ref 8], H) Q) := (pm_bk_iff pc_ch_173 4 7 _).trans (Iff.rfl)
theorem cb_c2_s0 {d L : Nat} {I : Nat → Nat → Int32} {J : Nat → Nat → Int64} {Q : Int32 → Int64 → pm_H → Prop} : pm_wc pm_code pm_meta (d + 1) 25 [.ref 158] ((cbT_159 L, cbO_1, 159, 15489), cbI_1 I, cbJ_1 J) Q ↔ pm_wc pm_code pm_meta d 80 [.ref 159, .int 10, .int 10] ((cbT_160 L, cbO_2, 160, 15493), cbI_2 I, cbJ_2 J) (fun v w H => pm_wp pm_code pm_meta (d + 1) 25 16 ([.ref 158, pm_unset, pm_unset], [.ref 159, .ref 158], H) Q) := (pm_bk_iff pc_ch_25 8 0 _).trans (Iff.rfl)
theorem cb_c3_s0 {d L : Nat} {I : Nat → Nat → Int32} {J : Nat → Nat → Int64} {Q : Int32 → Int64 → pm_H → Prop} : pm_wc pm_code pm_meta d 80 [.ref 159, .int 10, .int 10] ((cbT_160 L, cbO_2, 160, 15493), cbI_2 I, cbJ_2 J) Q ↔ pm_wp pm_code pm_meta d 80 19 ([.ref 159, .int 10, .int 10], [.ref 159], ((cbT_160 L, cbO_2, 160, 15493), cbI_4 I, cbJ_2 J)) Q := (pm_bk_iff pc_ch_80 11 0 _).trans (pc_le0 (v := 10) (by decide))
theorem cb_c3_s1 {d L : Nat} {I : Nat → Nat → Int32} {J : Nat → Nat → Int64} {Q : Int32 → Int64 → pm_H → Prop} : pm_wp pm_code pm_meta d 80 19 ([.ref 159, .int 10, .int 10], [.ref 159], ((cbT_160 L, cbO_2, 160, 15493), cbI_4 I, cbJ_2 J)) Q ↔ pm_wp pm_code pm_meta d 80 23 ([.ref 159, .int 10, .int 10], [.ref 159], ((cbT_160 L, cbO_2, 160, 15493), cbI_4 I, cbJ_2 J)) Q := (pm_bk_iff pc_ch_80 2 19 _).trans (pc_le0 (v := 10) (by decide))
theorem cb_c3_s2 {d L : Nat} {I : Nat → Nat → Int32} {J : Nat → Nat → Int64} {Q : Int32 → Int64 → pm_H → Prop} : pm_wp pm_code pm_meta d 80 23 ([.ref 159, .int 10, .int 10], [.ref 159], ((cbT_160 L, cbO_2, 160, 15493), cbI_4 I, cbJ_2 J)) Q ↔ pm_wp pm_code pm_meta d 80 30 ([.ref 159, .int 10, .int 10], [.int (10 * 10), .ref 159], ((cbT_160 L, cbO_2, 160, 15493), cbI_4 I, cbJ_2 J)) Q := (pm_bk_iff pc_ch_80 4 23 _).trans (Iff.rfl)
theorem cb_c3_s3 {d L : Nat} {I : Nat → Nat → Int32} {J : Nat → Nat → Int64} {Q : Int32 → Int64 → pm_H → Prop} : pm_wp pm_code pm_meta d 80 30 ([.ref 159, .int 10, .int 10], [.int (10 * 10), .ref 159], ((cbT_160 L, cbO_2, 160, 15493), cbI_4 I, cbJ_2 J)) Q ↔ Q 0 0 ((cbT_161 L, cbO_4, 161, 15593), cbI_5 I, cbJ_3 J) := (pm_bk_iff pc_ch_80 3 30 _).trans (pm_tt.trans (pm_tt))
theorem cb_c3 {d L : Nat} {I : Nat → Nat → Int32} {J : Nat → Nat → Int64} {Q : Int32 → Int64 → pm_H → Prop} : pm_wc pm_code pm_meta d 80 [.ref 159, .int 10, .int 10] ((cbT_160 L, cbO_2, 160, 15493), cbI_2 I, cbJ_2 J) Q ↔ Q 0 0 ((cbT_161 L, cbO_4, 161, 15593), cbI_5 I, cbJ_3 J) := by
  rw [cb_c3_s0, cb_c3_s1, cb_c3_s2, cb_c3_s3]
theorem cb_c2_s2 {d L : Nat} {I : Nat → Nat → Int32} {J : Nat → Nat → Int64} {Q : Int32 → Int64 → pm_H → Prop} : pm_wp pm_code pm_meta (d + 1) 25 16 ([.ref 158, pm_unset, pm_unset], [.ref 159, .ref 158], ((cbT_161 L, cbO_4, 161, 15593), cbI_5 I, cbJ_3 J)) Q ↔ pm_wc pm_code pm_meta d 80 [.ref 161, .int 16, .int 2] ((cbT_162 L, cbO_6, 162, 15597), cbI_6 I, cbJ_4 J) (fun v w H => pm_wp pm_code pm_meta (d + 1) 25 30 ([.ref 158, pm_unset, pm_unset], [.ref 161, .ref 158], H) Q) := (pm_bk_iff pc_ch_25 7 16 _).trans (Iff.rfl)
theorem cb_c4_s0 {d L : Nat} {I : Nat → Nat → Int32} {J : Nat → Nat → Int64} {Q : Int32 → Int64 → pm_H → Prop} : pm_wc pm_code pm_meta d 80 [.ref 161, .int 16, .int 2] ((cbT_162 L, cbO_6, 162, 15597), cbI_6 I, cbJ_4 J) Q ↔ pm_wp pm_code pm_meta d 80 19 ([.ref 161, .int 16, .int 2], [.ref 161], ((cbT_162 L, cbO_6, 162, 15597), cbI_8 I, cbJ_4 J)) Q := (pm_bk_iff pc_ch_80 11 0 _).trans (pc_le0 (v := 16) (by decide))
theorem cb_c4_s1 {d L : Nat} {I : Nat → Nat → Int32} {J : Nat → Nat → Int64} {Q : Int32 → Int64 → pm_H → Prop} : pm_wp pm_code pm_meta d 80 19 ([.ref 161, .int 16, .int 2], [.ref 161], ((cbT_162 L, cbO_6, 162, 15597), cbI_8 I, cbJ_4 J)) Q ↔ pm_wp pm_code pm_meta d 80 23 ([.ref 161, .int 16, .int 2], [.ref 161], ((cbT_162 L, cbO_6, 162, 15597), cbI_8 I, cbJ_4 J)) Q := (pm_bk_iff pc_ch_80 2 19 _).trans (pc_le0 (v := 2) (by decide))
theorem cb_c4_s2 {d L : Nat} {I : Nat → Nat → Int32} {J : Nat → Nat → Int64} {Q : Int32 → Int64 → pm_H → Prop} : pm_wp pm_code pm_meta d 80 23 ([.ref 161, .int 16, .int 2], [.ref 161], ((cbT_162 L, cbO_6, 162, 15597), cbI_8 I, cbJ_4 J)) Q ↔ pm_wp pm_code pm_meta d 80 30 ([.ref 161, .int 16, .int 2], [.int (16 * 2), .ref 161], ((cbT_162 L, cbO_6, 162, 15597), cbI_8 I, cbJ_4 J)) Q := (pm_bk_iff pc_ch_80 4 23 _).trans (Iff.rfl)
theorem cb_c4_s3 {d L : Nat} {I : Nat → Nat → Int32} {J : Nat → Nat → Int64} {Q : Int32 → Int64 → pm_H → Prop} : pm_wp pm_code pm_meta d 80 30 ([.ref 161, .int 16, .int 2], [.int (16 * 2), .ref 161], ((cbT_162 L, cbO_6, 162, 15597), cbI_8 I, cbJ_4 J)) Q ↔ Q 0 0 ((cbT_163 L, cbO_8, 163, 15629), cbI_9 I, cbJ_5 J) := (pm_bk_iff pc_ch_80 3 30 _).trans (pm_tt.trans (pm_tt))
theorem cb_c4 {d L : Nat} {I : Nat → Nat → Int32} {J : Nat → Nat → Int64} {Q : Int32 → Int64 → pm_H → Prop} : pm_wc pm_code pm_meta d 80 [.ref 161, .int 16, .int 2] ((cbT_162 L, cbO_6, 162, 15597), cbI_6 I, cbJ_4 J) Q ↔ Q 0 0 ((cbT_163 L, cbO_8, 163, 15629), cbI_9 I, cbJ_5 J) := by
  rw [cb_c4_s0, cb_c4_s1, cb_c4_s2, cb_c4_s3]
theorem cb_c2_s4 {d L : Nat} {I : Nat → Nat → Int32} {J : Nat → Nat → Int64} {Q : Int32 → Int64 → pm_H → Prop} : pm_wp pm_code pm_meta (d + 1) 25 30 ([.ref 158, pm_unset, pm_unset], [.ref 161, .ref 158], ((cbT_163 L, cbO_8, 163, 15629), cbI_9 I, cbJ_5 J)) Q ↔ pm_wc pm_code pm_meta d 80 [.ref 163, .int 8, .int 10] ((cbT_164 L, cbO_10, 164, 15633), cbI_10 I, cbJ_6 J) (fun v w H => pm_wp pm_code pm_meta (d + 1) 25 45 ([.ref 158, pm_unset, pm_unset], [.ref 163, .ref 158], H) Q) := (pm_bk_iff pc_ch_25 7 30 _).trans (Iff.rfl)
theorem cb_c5_s0 {d L : Nat} {I : Nat → Nat → Int32} {J : Nat → Nat → Int64} {Q : Int32 → Int64 → pm_H → Prop} : pm_wc pm_code pm_meta d 80 [.ref 163, .int 8, .int 10] ((cbT_164 L, cbO_10, 164, 15633), cbI_10 I, cbJ_6 J) Q ↔ pm_wp pm_code pm_meta d 80 19 ([.ref 163, .int 8, .int 10], [.ref 163], ((cbT_164 L, cbO_10, 164, 15633), cbI_12 I, cbJ_6 J)) Q := (pm_bk_iff pc_ch_80 11 0 _).trans (pc_le0 (v := 8) (by decide))
theorem cb_c5_s1 {d L : Nat} {I : Nat → Nat → Int32} {J : Nat → Nat → Int64} {Q : Int32 → Int64 → pm_H → Prop} : pm_wp pm_code pm_meta d 80 19 ([.ref 163, .int 8, .int 10], [.ref 163], ((cbT_164 L, cbO_10, 164, 15633), cbI_12 I, cbJ_6 J)) Q ↔ pm_wp pm_code pm_meta d 80 23 ([.ref 163, .int 8, .int 10], [.ref 163], ((cbT_164 L, cbO_10, 164, 15633), cbI_12 I, cbJ_6 J)) Q := (pm_bk_iff pc_ch_80 2 19 _).trans (pc_le0 (v := 10) (by decide))
theorem cb_c5_s2 {d L : Nat} {I : Nat → Nat → Int32} {J : Nat → Nat → Int64} {Q : Int32 → Int64 → pm_H → Prop} : pm_wp pm_code pm_meta d 80 23 ([.ref 163, .int 8, .int 10], [.ref 163], ((cbT_164 L, cbO_10, 164, 15633), cbI_12 I, cbJ_6 J)) Q ↔ pm_wp pm_code pm_meta d 80 30 ([.ref 163, .int 8, .int 10], [.int (8 * 10), .ref 163], ((cbT_164 L, cbO_10, 164, 15633), cbI_12 I, cbJ_6 J)) Q := (pm_bk_iff pc_ch_80 4 23 _).trans (Iff.rfl)
theorem cb_c5_s3 {d L : Nat} {I : Nat → Nat → Int32} {J : Nat → Nat → Int64} {Q : Int32 → Int64 → pm_H → Prop} : pm_wp pm_code pm_meta d 80 30 ([.ref 163, .int 8, .int 10], [.int (8 * 10), .ref 163], ((cbT_164 L, cbO_10, 164, 15633), cbI_12 I, cbJ_6 J)) Q ↔ Q 0 0 ((cbT_165 L, cbO_12, 165, 15713), cbI_13 I, cbJ_7 J) := (pm_bk_iff pc_ch_80 3 30 _).trans (pm_tt.trans (pm_tt))
theorem cb_c5 {d L : Nat} {I : Nat → Nat → Int32} {J : Nat → Nat → Int64} {Q : Int32 → Int64 → pm_H → Prop} : pm_wc pm_code pm_meta d 80 [.ref 163, .int 8, .int 10] ((cbT_164 L, cbO_10, 164, 15633), cbI_10 I, cbJ_6 J) Q ↔ Q 0 0 ((cbT_165 L, cbO_12, 165, 15713), cbI_13 I, cbJ_7 J) := by
  rw [cb_c5_s0, cb_c5_s1, cb_c5_s2, cb_c5_s3]
theorem cb_c2_s6 {d L : Nat} {I : Nat → Nat → Int32} {J : Nat → Nat → Int64} {Q : Int32 → Int64 → pm_H → Prop} : pm_wp pm_code pm_meta (d + 1) 25 45 ([.ref 158, pm_unset, pm_unset], [.ref 163, .ref 158], ((cbT_165 L, cbO_12, 165, 15713), cbI_13 I, cbJ_7 J)) Q ↔ pm_wc pm_code pm_meta d 80 [.ref 165, .int 24, .int 5] ((cbT_166 L, cbO_14, 166, 15717), cbI_14 I, cbJ_8 J) (fun v w H => pm_wp pm_code pm_meta (d + 1) 25 59 ([.ref 158, pm_unset, pm_unset], [.ref 165, .ref 158], H) Q) := (pm_bk_iff pc_ch_25 7 45 _).trans (Iff.rfl)
theorem cb_c6_s0 {d L : Nat} {I : Nat → Nat → Int32} {J : Nat → Nat → Int64} {Q : Int32 → Int64 → pm_H → Prop} : pm_wc pm_code pm_meta d 80 [.ref 165, .int 24, .int 5] ((cbT_166 L, cbO_14, 166, 15717), cbI_14 I, cbJ_8 J) Q ↔ pm_wp pm_code pm_meta d 80 19 ([.ref 165, .int 24, .int 5], [.ref 165], ((cbT_166 L, cbO_14, 166, 15717), cbI_16 I, cbJ_8 J)) Q := (pm_bk_iff pc_ch_80 11 0 _).trans (pc_le0 (v := 24) (by decide))
theorem cb_c6_s1 {d L : Nat} {I : Nat → Nat → Int32} {J : Nat → Nat → Int64} {Q : Int32 → Int64 → pm_H → Prop} : pm_wp pm_code pm_meta d 80 19 ([.ref 165, .int 24, .int 5], [.ref 165], ((cbT_166 L, cbO_14, 166, 15717), cbI_16 I, cbJ_8 J)) Q ↔ pm_wp pm_code pm_meta d 80 23 ([.ref 165, .int 24, .int 5], [.ref 165], ((cbT_166 L, cbO_14, 166, 15717), cbI_16 I, cbJ_8 J)) Q := (pm_bk_iff pc_ch_80 2 19 _).trans (pc_le0 (v := 5) (by decide))
theorem cb_c6_s2 {d L : Nat} {I : Nat → Nat → Int32} {J : Nat → Nat → Int64} {Q : Int32 → Int64 → pm_H → Prop} : pm_wp pm_code pm_meta d 80 23 ([.ref 165, .int 24, .int 5], [.ref 165], ((cbT_166 L, cbO_14, 166, 15717), cbI_16 I, cbJ_8 J)) Q ↔ pm_wp pm_code pm_meta d 80 30 ([.ref 165, .int 24, .int 5], [.int (24 * 5), .ref 165], ((cbT_166 L, cbO_14, 166, 15717), cbI_16 I, cbJ_8 J)) Q := (pm_bk_iff pc_ch_80 4 23 _).trans (Iff.rfl)
theorem cb_c6_s3 {d L : Nat} {I : Nat → Nat → Int32} {J : Nat → Nat → Int64} {Q : Int32 → Int64 → pm_H → Prop} : pm_wp pm_code pm_meta d 80 30 ([.ref 165, .int 24, .int 5], [.int (24 * 5), .ref 165], ((cbT_166 L, cbO_14, 166, 15717), cbI_16 I, cbJ_8 J)) Q ↔ Q 0 0 ((cbT_167 L, cbO_16, 167, 15837), cbI_17 I, cbJ_9 J) := (pm_bk_iff pc_ch_80 3 30 _).trans (pm_tt.trans (pm_tt))
theorem cb_c6 {d L : Nat} {I : Nat → Nat → Int32} {J : Nat → Nat → Int64} {Q : Int32 → Int64 → pm_H → Prop} : pm_wc pm_code pm_meta d 80 [.ref 165, .int 24, .int 5] ((cbT_166 L, cbO_14, 166, 15717), cbI_14 I, cbJ_8 J) Q ↔ Q 0 0 ((cbT_167 L, cbO_16, 167, 15837), cbI_17 I, cbJ_9 J) := by
  rw [cb_c6_s0, cb_c6_s1, cb_c6_s2, cb_c6_s3]
theorem cb_c2_s8 {d L : Nat} {I : Nat → Nat → Int32} {J : Nat → Nat → Int64} {Q : Int32 → Int64 → pm_H → Prop} : pm_wp pm_code pm_meta (d + 1) 25 59 ([.ref 158, pm_unset, pm_unset], [.ref 165, .ref 158], ((cbT_167 L, cbO_16, 167, 15837), cbI_17 I, cbJ_9 J)) Q ↔ pm_wc pm_code pm_meta d 80 [.ref 167, .int 24, .int 16] ((cbT_168 L, cbO_18, 168, 15841), cbI_18 I, cbJ_10 J) (fun v w H => pm_wp pm_code pm_meta (d + 1) 25 74 ([.ref 158, pm_unset, pm_unset], [.ref 167, .ref 158], H) Q) := (pm_bk_iff pc_ch_25 7 59 _).trans (Iff.rfl)
theorem cb_c7_s0 {d L : Nat} {I : Nat → Nat → Int32} {J : Nat → Nat → Int64} {Q : Int32 → Int64 → pm_H → Prop} : pm_wc pm_code pm_meta d 80 [.ref 167, .int 24, .int 16] ((cbT_168 L, cbO_18, 168, 15841), cbI_18 I, cbJ_10 J) Q ↔ pm_wp pm_code pm_meta d 80 19 ([.ref 167, .int 24, .int 16], [.ref 167], ((cbT_168 L, cbO_18, 168, 15841), cbI_20 I, cbJ_10 J)) Q := (pm_bk_iff pc_ch_80 11 0 _).trans (pc_le0 (v := 24) (by decide))
theorem cb_c7_s1 {d L : Nat} {I : Nat → Nat → Int32} {J : Nat → Nat → Int64} {Q : Int32 → Int64 → pm_H → Prop} : pm_wp pm_code pm_meta d 80 19 ([.ref 167, .int 24, .int 16], [.ref 167], ((cbT_168 L, cbO_18, 168, 15841), cbI_20 I, cbJ_10 J)) Q ↔ pm_wp pm_code pm_meta d 80 23 ([.ref 167, .int 24, .int 16], [.ref 167], ((cbT_168 L, cbO_18, 168, 15841), cbI_20 I, cbJ_10 J)) Q := (pm_bk_iff pc_ch_80 2 19 _).trans (pc_le0 (v := 16) (by decide))
theorem cb_c7_s2 {d L : Nat} {I : Nat → Nat → Int32} {J : Nat → Nat → Int64} {Q : Int32 → Int64 → pm_H → Prop} : pm_wp pm_code pm_meta d 80 23 ([.ref 167, .int 24, .int 16], [.ref 167], ((cbT_168 L, cbO_18, 168, 15841), cbI_20 I, cbJ_10 J)) Q ↔ pm_wp pm_code pm_meta d 80 30 ([.ref 167, .int 24, .int 16], [.int (24 * 16), .ref 167], ((cbT_168 L, cbO_18, 168, 15841), cbI_20 I, cbJ_10 J)) Q := (pm_bk_iff pc_ch_80 4 23 _).trans (Iff.rfl)
theorem cb_c7_s3 {d L : Nat} {I : Nat → Nat → Int32} {J : Nat → Nat → Int64} {Q : Int32 → Int64 → pm_H → Prop} : pm_wp pm_code pm_meta d 80 30 ([.ref 167, .int 24, .int 16], [.int (24 * 16), .ref 167], ((cbT_168 L, cbO_18, 168, 15841), cbI_20 I, cbJ_10 J)) Q ↔ Q 0 0 ((cbT_169 L, cbO_20, 169, 16225), cbI_21 I, cbJ_11 J) := (pm_bk_iff pc_ch_80 3 30 _).trans (pm_tt.trans (pm_tt))
theorem cb_c7 {d L : Nat} {I : Nat → Nat → Int32} {J : Nat → Nat → Int64} {Q : Int32 → Int64 → pm_H → Prop} : pm_wc pm_code pm_meta d 80 [.ref 167, .int 24, .int 16] ((cbT_168 L, cbO_18, 168, 15841), cbI_18 I, cbJ_10 J) Q ↔ Q 0 0 ((cbT_169 L, cbO_20, 169, 16225), cbI_21 I, cbJ_11 J) := by
  rw [cb_c7_s0, cb_c7_s1, cb_c7_s2, cb_c7_s3]
theorem cb_c2_s10 {d L : Nat} {I : Nat → Nat → Int32} {J : Nat → Nat → Int64} {Q : Int32 → Int64 → pm_H → Prop} : pm_wp pm_code pm_meta (d + 1) 25 74 ([.ref 158, pm_unset, pm_unset], [.ref 167, .ref 158], ((cbT_169 L, cbO_20, 169, 16225), cbI_21 I, cbJ_11 J)) Q ↔ pm_wc pm_code pm_meta d 80 [.ref 169, .int 12, .int 5] ((cbT_170 L, cbO_22, 170, 16229), cbI_22 I, cbJ_12 J) (fun v w H => pm_wp pm_code pm_meta (d + 1) 25 88 ([.ref 158, pm_unset, pm_unset], [.ref 169, .ref 158], H) Q) := (pm_bk_iff pc_ch_25 7 74 _).trans (Iff.rfl)
theorem cb_c8_s0 {d L : Nat} {I : Nat → Nat → Int32} {J : Nat → Nat → Int64} {Q : Int32 → Int64 → pm_H → Prop} : pm_wc pm_code pm_meta d 80 [.ref 169, .int 12, .int 5] ((cbT_170 L, cbO_22, 170, 16229), cbI_22 I, cbJ_12 J) Q ↔ pm_wp pm_code pm_meta d 80 19 ([.ref 169, .int 12, .int 5], [.ref 169], ((cbT_170 L, cbO_22, 170, 16229), cbI_24 I, cbJ_12 J)) Q := (pm_bk_iff pc_ch_80 11 0 _).trans (pc_le0 (v := 12) (by decide))
theorem cb_c8_s1 {d L : Nat} {I : Nat → Nat → Int32} {J : Nat → Nat → Int64} {Q : Int32 → Int64 → pm_H → Prop} : pm_wp pm_code pm_meta d 80 19 ([.ref 169, .int 12, .int 5], [.ref 169], ((cbT_170 L, cbO_22, 170, 16229), cbI_24 I, cbJ_12 J)) Q ↔ pm_wp pm_code pm_meta d 80 23 ([.ref 169, .int 12, .int 5], [.ref 169], ((cbT_170 L, cbO_22, 170, 16229), cbI_24 I, cbJ_12 J)) Q := (pm_bk_iff pc_ch_80 2 19 _).trans (pc_le0 (v := 5) (by decide))
theorem cb_c8_s2 {d L : Nat} {I : Nat → Nat → Int32} {J : Nat → Nat → Int64} {Q : Int32 → Int64 → pm_H → Prop} : pm_wp pm_code pm_meta d 80 23 ([.ref 169, .int 12, .int 5], [.ref 169], ((cbT_170 L, cbO_22, 170, 16229), cbI_24 I, cbJ_12 J)) Q ↔ pm_wp pm_code pm_meta d 80 30 ([.ref 169, .int 12, .int 5], [.int (12 * 5), .ref 169], ((cbT_170 L, cbO_22, 170, 16229), cbI_24 I, cbJ_12 J)) Q := (pm_bk_iff pc_ch_80 4 23 _).trans (Iff.rfl)
theorem cb_c8_s3 {d L : Nat} {I : Nat → Nat → Int32} {J : Nat → Nat → Int64} {Q : Int32 → Int64 → pm_H → Prop} : pm_wp pm_code pm_meta d 80 30 ([.ref 169, .int 12, .int 5], [.int (12 * 5), .ref 169], ((cbT_170 L, cbO_22, 170, 16229), cbI_24 I, cbJ_12 J)) Q ↔ Q 0 0 ((cbT_171 L, cbO_24, 171, 16289), cbI_25 I, cbJ_13 J) := (pm_bk_iff pc_ch_80 3 30 _).trans (pm_tt.trans (pm_tt))
theorem cb_c8 {d L : Nat} {I : Nat → Nat → Int32} {J : Nat → Nat → Int64} {Q : Int32 → Int64 → pm_H → Prop} : pm_wc pm_code pm_meta d 80 [.ref 169, .int 12, .int 5] ((cbT_170 L, cbO_22, 170, 16229), cbI_22 I, cbJ_12 J) Q ↔ Q 0 0 ((cbT_171 L, cbO_24, 171, 16289), cbI_25 I, cbJ_13 J) := by
  rw [cb_c8_s0, cb_c8_s1, cb_c8_s2, cb_c8_s3]
theorem cb_c2_s12 {d L : Nat} {I : Nat → Nat → Int32} {J : Nat → Nat → Int64} {Q : Int32 → Int64 → pm_H → Prop} : pm_wp pm_code pm_meta (d + 1) 25 88 ([.ref 158, pm_unset, pm_unset], [.ref 169, .ref 158], ((cbT_171 L, cbO_24, 171, 16289), cbI_25 I, cbJ_13 J)) Q ↔ pm_wc pm_code pm_meta d 80 [.ref 171, .int 120, .int 5] ((cbT_172 L, cbO_26, 172, 16293), cbI_26 I, cbJ_14 J) (fun v w H => pm_wp pm_code pm_meta (d + 1) 25 102 ([.ref 158, pm_unset, pm_unset], [.ref 171, .ref 158], H) Q) := (pm_bk_iff pc_ch_25 7 88 _).trans (Iff.rfl)
theorem cb_c9_s0 {d L : Nat} {I : Nat → Nat → Int32} {J : Nat → Nat → Int64} {Q : Int32 → Int64 → pm_H → Prop} : pm_wc pm_code pm_meta d 80 [.ref 171, .int 120, .int 5] ((cbT_172 L, cbO_26, 172, 16293), cbI_26 I, cbJ_14 J) Q ↔ pm_wp pm_code pm_meta d 80 19 ([.ref 171, .int 120, .int 5], [.ref 171], ((cbT_172 L, cbO_26, 172, 16293), cbI_28 I, cbJ_14 J)) Q := (pm_bk_iff pc_ch_80 11 0 _).trans (pc_le0 (v := 120) (by decide))
theorem cb_c9_s1 {d L : Nat} {I : Nat → Nat → Int32} {J : Nat → Nat → Int64} {Q : Int32 → Int64 → pm_H → Prop} : pm_wp pm_code pm_meta d 80 19 ([.ref 171, .int 120, .int 5], [.ref 171], ((cbT_172 L, cbO_26, 172, 16293), cbI_28 I, cbJ_14 J)) Q ↔ pm_wp pm_code pm_meta d 80 23 ([.ref 171, .int 120, .int 5], [.ref 171], ((cbT_172 L, cbO_26, 172, 16293), cbI_28 I, cbJ_14 J)) Q := (pm_bk_iff pc_ch_80 2 19 _).trans (pc_le0 (v := 5) (by decide))
theorem cb_c9_s2 {d L : Nat} {I : Nat → Nat → Int32} {J : Nat → Nat → Int64} {Q : Int32 → Int64 → pm_H → Prop} : pm_wp pm_code pm_meta d 80 23 ([.ref 171, .int 120, .int 5], [.ref 171], ((cbT_172 L, cbO_26, 172, 16293), cbI_28 I, cbJ_14 J)) Q ↔ pm_wp pm_code pm_meta d 80 30 ([.ref 171, .int 120, .int 5], [.int (120 * 5), .ref 171], ((cbT_172 L, cbO_26, 172, 16293), cbI_28 I, cbJ_14 J)) Q := (pm_bk_iff pc_ch_80 4 23 _).trans (Iff.rfl)
theorem cb_c9_s3 {d L : Nat} {I : Nat → Nat → Int32} {J : Nat → Nat → Int64} {Q : Int32 → Int64 → pm_H → Prop} : pm_wp pm_code pm_meta d 80 30 ([.ref 171, .int 120, .int 5], [.int (120 * 5), .ref 171], ((cbT_172 L, cbO_26, 172, 16293), cbI_28 I, cbJ_14 J)) Q ↔ Q 0 0 ((cbT_173 L, cbO_28, 173, 16893), cbI_29 I, cbJ_15 J) := (pm_bk_iff pc_ch_80 3 30 _).trans (pm_tt.trans (pm_tt))
theorem cb_c9 {d L : Nat} {I : Nat → Nat → Int32} {J : Nat → Nat → Int64} {Q : Int32 → Int64 → pm_H → Prop} : pm_wc pm_code pm_meta d 80 [.ref 171, .int 120, .int 5] ((cbT_172 L, cbO_26, 172, 16293), cbI_26 I, cbJ_14 J) Q ↔ Q 0 0 ((cbT_173 L, cbO_28, 173, 16893), cbI_29 I, cbJ_15 J) := by
  rw [cb_c9_s0, cb_c9_s1, cb_c9_s2, cb_c9_s3]
theorem cb_c2_s14 {d L : Nat} {I : Nat → Nat → Int32} {J : Nat → Nat → Int64} {Q : Int32 → Int64 → pm_H → Prop} : pm_wp pm_code pm_meta (d + 1) 25 102 ([.ref 158, pm_unset, pm_unset], [.ref 171, .ref 158], ((cbT_173 L, cbO_28, 173, 16893), cbI_29 I, cbJ_15 J)) Q ↔ pm_wc pm_code pm_meta d 80 [.ref 173, .int 1200, .int 2] ((cbT_174 L, cbO_30, 174, 16897), cbI_30 I, cbJ_16 J) (fun v w H => pm_wp pm_code pm_meta (d + 1) 25 117 ([.ref 158, pm_unset, pm_unset], [.ref 173, .ref 158], H) Q) := (pm_bk_iff pc_ch_25 7 102 _).trans (Iff.rfl)
theorem cb_c10_s0 {d L : Nat} {I : Nat → Nat → Int32} {J : Nat → Nat → Int64} {Q : Int32 → Int64 → pm_H → Prop} : pm_wc pm_code pm_meta d 80 [.ref 173, .int 1200, .int 2] ((cbT_174 L, cbO_30, 174, 16897), cbI_30 I, cbJ_16 J) Q ↔ pm_wp pm_code pm_meta d 80 19 ([.ref 173, .int 1200, .int 2], [.ref 173], ((cbT_174 L, cbO_30, 174, 16897), cbI_32 I, cbJ_16 J)) Q := (pm_bk_iff pc_ch_80 11 0 _).trans (pc_le0 (v := 1200) (by decide))
theorem cb_c10_s1 {d L : Nat} {I : Nat → Nat → Int32} {J : Nat → Nat → Int64} {Q : Int32 → Int64 → pm_H → Prop} : pm_wp pm_code pm_meta d 80 19 ([.ref 173, .int 1200, .int 2], [.ref 173], ((cbT_174 L, cbO_30, 174, 16897), cbI_32 I, cbJ_16 J)) Q ↔ pm_wp pm_code pm_meta d 80 23 ([.ref 173, .int 1200, .int 2], [.ref 173], ((cbT_174 L, cbO_30, 174, 16897), cbI_32 I, cbJ_16 J)) Q := (pm_bk_iff pc_ch_80 2 19 _).trans (pc_le0 (v := 2) (by decide))
theorem cb_c10_s2 {d L : Nat} {I : Nat → Nat → Int32} {J : Nat → Nat → Int64} {Q : Int32 → Int64 → pm_H → Prop} : pm_wp pm_code pm_meta d 80 23 ([.ref 173, .int 1200, .int 2], [.ref 173], ((cbT_174 L, cbO_30, 174, 16897), cbI_32 I, cbJ_16 J)) Q ↔ pm_wp pm_code pm_meta d 80 30 ([.ref 173, .int 1200, .int 2], [.int (1200 * 2), .ref 173], ((cbT_174 L, cbO_30, 174, 16897), cbI_32 I, cbJ_16 J)) Q := (pm_bk_iff pc_ch_80 4 23 _).trans (Iff.rfl)
theorem cb_c10_s3 {d L : Nat} {I : Nat → Nat → Int32} {J : Nat → Nat → Int64} {Q : Int32 → Int64 → pm_H → Prop} : pm_wp pm_code pm_meta d 80 30 ([.ref 173, .int 1200, .int 2], [.int (1200 * 2), .ref 173], ((cbT_174 L, cbO_30, 174, 16897), cbI_32 I, cbJ_16 J)) Q ↔ Q 0 0 ((cbT_175 L, cbO_32, 175, 19297), cbI_33 I, cbJ_17 J) := (pm_bk_iff pc_ch_80 3 30 _).trans (pm_tt.trans (pm_tt))
theorem cb_c10 {d L : Nat} {I : Nat → Nat → Int32} {J : Nat → Nat → Int64} {Q : Int32 → Int64 → pm_H → Prop} : pm_wc pm_code pm_meta d 80 [.ref 173, .int 1200, .int 2] ((cbT_174 L, cbO_30, 174, 16897), cbI_30 I, cbJ_16 J) Q ↔ Q 0 0 ((cbT_175 L, cbO_32, 175, 19297), cbI_33 I, cbJ_17 J) := by
  rw [cb_c10_s0, cb_c10_s1, cb_c10_s2, cb_c10_s3]
theorem cb_c2_s16 {d L : Nat} {I : Nat → Nat → Int32} {J : Nat → Nat → Int64} {Q : Int32 → Int64 → pm_H → Prop} : pm_wp pm_code pm_meta (d + 1) 25 117 ([.ref 158, pm_unset, pm_unset], [.ref 173, .ref 158], ((cbT_175 L, cbO_32, 175, 19297), cbI_33 I, cbJ_17 J)) Q ↔ pm_wc pm_code pm_meta d 80 [.ref 175, .int 4, .int 1] ((cbT_176 L, cbO_34, 176, 19301), cbI_34 I, cbJ_18 J) (fun v w H => pm_wp pm_code pm_meta (d + 1) 25 130 ([.ref 158, pm_unset, pm_unset], [.ref 175, .ref 158], H) Q) := (pm_bk_iff pc_ch_25 7 117 _).trans (Iff.rfl)
theorem cb_c11_s0 {d L : Nat} {I : Nat → Nat → Int32} {J : Nat → Nat → Int64} {Q : Int32 → Int64 → pm_H → Prop} : pm_wc pm_code pm_meta d 80 [.ref 175, .int 4, .int 1] ((cbT_176 L, cbO_34, 176, 19301), cbI_34 I, cbJ_18 J) Q ↔ pm_wp pm_code pm_meta d 80 19 ([.ref 175, .int 4, .int 1], [.ref 175], ((cbT_176 L, cbO_34, 176, 19301), cbI_36 I, cbJ_18 J)) Q := (pm_bk_iff pc_ch_80 11 0 _).trans (pc_le0 (v := 4) (by decide))
theorem cb_c11_s1 {d L : Nat} {I : Nat → Nat → Int32} {J : Nat → Nat → Int64} {Q : Int32 → Int64 → pm_H → Prop} : pm_wp pm_code pm_meta d 80 19 ([.ref 175, .int 4, .int 1], [.ref 175], ((cbT_176 L, cbO_34, 176, 19301), cbI_36 I, cbJ_18 J)) Q ↔ pm_wp pm_code pm_meta d 80 23 ([.ref 175, .int 4, .int 1], [.ref 175], ((cbT_176 L, cbO_34, 176, 19301), cbI_36 I, cbJ_18 J)) Q := (pm_bk_iff pc_ch_80 2 19 _).trans (pc_le0 (v := 1) (by decide))
theorem cb_c11_s2 {d L : Nat} {I : Nat → Nat → Int32} {J : Nat → Nat → Int64} {Q : Int32 → Int64 → pm_H → Prop} : pm_wp pm_code pm_meta d 80 23 ([.ref 175, .int 4, .int 1], [.ref 175], ((cbT_176 L, cbO_34, 176, 19301), cbI_36 I, cbJ_18 J)) Q ↔ pm_wp pm_code pm_meta d 80 30 ([.ref 175, .int 4, .int 1], [.int (4 * 1), .ref 175], ((cbT_176 L, cbO_34, 176, 19301), cbI_36 I, cbJ_18 J)) Q := (pm_bk_iff pc_ch_80 4 23 _).trans (Iff.rfl)
theorem cb_c11_s3 {d L : Nat} {I : Nat → Nat → Int32} {J : Nat → Nat → Int64} {Q : Int32 → Int64 → pm_H → Prop} : pm_wp pm_code pm_meta d 80 30 ([.ref 175, .int 4, .int 1], [.int (4 * 1), .ref 175], ((cbT_176 L, cbO_34, 176, 19301), cbI_36 I, cbJ_18 J)) Q ↔ Q 0 0 ((cbT_177 L, cbO_36, 177, 19305), cbI_37 I, cbJ_19 J) := (pm_bk_iff pc_ch_80 3 30 _).trans (pm_tt.trans (pm_tt))
theorem cb_c11 {d L : Nat} {I : Nat → Nat → Int32} {J : Nat → Nat → Int64} {Q : Int32 → Int64 → pm_H → Prop} : pm_wc pm_code pm_meta d 80 [.ref 175, .int 4, .int 1] ((cbT_176 L, cbO_34, 176, 19301), cbI_34 I, cbJ_18 J) Q ↔ Q 0 0 ((cbT_177 L, cbO_36, 177, 19305), cbI_37 I, cbJ_19 J) := by
  rw [cb_c11_s0, cb_c11_s1, cb_c11_s2, cb_c11_s3]
theorem cb_c2_s18 {d L : Nat} {I : Nat → Nat → Int32} {J : Nat → Nat → Int64} {Q : Int32 → Int64 → pm_H → Prop} : pm_wp pm_code pm_meta (d + 1) 25 130 ([.ref 158, pm_unset, pm_unset], [.ref 175, .ref 158], ((cbT_177 L, cbO_36, 177, 19305), cbI_37 I, cbJ_19 J)) Q ↔ pm_wc pm_code pm_meta d 80 [.ref 177, .int 24, .int 3] ((cbT_178 L, cbO_38, 178, 19309), cbI_38 I, cbJ_20 J) (fun v w H => pm_wp pm_code pm_meta (d + 1) 25 144 ([.ref 158, pm_unset, pm_unset], [.ref 177, .ref 158], H) Q) := (pm_bk_iff pc_ch_25 7 130 _).trans (Iff.rfl)
theorem cb_c12_s0 {d L : Nat} {I : Nat → Nat → Int32} {J : Nat → Nat → Int64} {Q : Int32 → Int64 → pm_H → Prop} : pm_wc pm_code pm_meta d 80 [.ref 177, .int 24, .int 3] ((cbT_178 L, cbO_38, 178, 19309), cbI_38 I, cbJ_20 J) Q ↔ pm_wp pm_code pm_meta d 80 19 ([.ref 177, .int 24, .int 3], [.ref 177], ((cbT_178 L, cbO_38, 178, 19309), cbI_40 I, cbJ_20 J)) Q := (pm_bk_iff pc_ch_80 11 0 _).trans (pc_le0 (v := 24) (by decide))
theorem cb_c12_s1 {d L : Nat} {I : Nat → Nat → Int32} {J : Nat → Nat → Int64} {Q : Int32 → Int64 → pm_H → Prop} : pm_wp pm_code pm_meta d 80 19 ([.ref 177, .int 24, .int 3], [.ref 177], ((cbT_178 L, cbO_38, 178, 19309), cbI_40 I, cbJ_20 J)) Q ↔ pm_wp pm_code pm_meta d 80 23 ([.ref 177, .int 24, .int 3], [.ref 177], ((cbT_178 L, cbO_38, 178, 19309), cbI_40 I, cbJ_20 J)) Q := (pm_bk_iff pc_ch_80 2 19 _).trans (pc_le0 (v := 3) (by decide))
theorem cb_c12_s2 {d L : Nat} {I : Nat → Nat → Int32} {J : Nat → Nat → Int64} {Q : Int32 → Int64 → pm_H → Prop} : pm_wp pm_code pm_meta d 80 23 ([.ref 177, .int 24, .int 3], [.ref 177], ((cbT_178 L, cbO_38, 178, 19309), cbI_40 I, cbJ_20 J)) Q ↔ pm_wp pm_code pm_meta d 80 30 ([.ref 177, .int 24, .int 3], [.int (24 * 3), .ref 177], ((cbT_178 L, cbO_38, 178, 19309), cbI_40 I, cbJ_20 J)) Q := (pm_bk_iff pc_ch_80 4 23 _).trans (Iff.rfl)
theorem cb_c12_s3 {d L : Nat} {I : Nat → Nat → Int32} {J : Nat → Nat → Int64} {Q : Int32 → Int64 → pm_H → Prop} : pm_wp pm_code pm_meta d 80 30 ([.ref 177, .int 24, .int 3], [.int (24 * 3), .ref 177], ((cbT_178 L, cbO_38, 178, 19309), cbI_40 I, cbJ_20 J)) Q ↔ Q 0 0 ((cbT_179 L, cbO_40, 179, 19381), cbI_41 I, cbJ_21 J) := (pm_bk_iff pc_ch_80 3 30 _).trans (pm_tt.trans (pm_tt))
theorem cb_c12 {d L : Nat} {I : Nat → Nat → Int32} {J : Nat → Nat → Int64} {Q : Int32 → Int64 → pm_H → Prop} : pm_wc pm_code pm_meta d 80 [.ref 177, .int 24, .int 3] ((cbT_178 L, cbO_38, 178, 19309), cbI_38 I, cbJ_20 J) Q ↔ Q 0 0 ((cbT_179 L, cbO_40, 179, 19381), cbI_41 I, cbJ_21 J) := by
  rw [cb_c12_s0, cb_c12_s1, cb_c12_s2, cb_c12_s3]
theorem cb_c2_s20 {d L : Nat} {I : Nat → Nat → Int32} {J : Nat → Nat → Int64} {Q : Int32 → Int64 → pm_H → Prop} : pm_wp pm_code pm_meta (d + 1) 25 144 ([.ref 158, pm_unset, pm_unset], [.ref 177, .ref 158], ((cbT_179 L, cbO_40, 179, 19381), cbI_41 I, cbJ_21 J)) Q ↔ pm_wc pm_code pm_meta d 80 [.ref 179, .int 7, .int 1] ((cbT_180 L, cbO_42, 180, 19385), cbI_42 I, cbJ_22 J) (fun v w H => pm_wp pm_code pm_meta (d + 1) 25 158 ([.ref 158, pm_unset, pm_unset], [.ref 179, .ref 158], H) Q) := (pm_bk_iff pc_ch_25 7 144 _).trans (Iff.rfl)
theorem cb_c13_s0 {d L : Nat} {I : Nat → Nat → Int32} {J : Nat → Nat → Int64} {Q : Int32 → Int64 → pm_H → Prop} : pm_wc pm_code pm_meta d 80 [.ref 179, .int 7, .int 1] ((cbT_180 L, cbO_42, 180, 19385), cbI_42 I, cbJ_22 J) Q ↔ pm_wp pm_code pm_meta d 80 19 ([.ref 179, .int 7, .int 1], [.ref 179], ((cbT_180 L, cbO_42, 180, 19385), cbI_44 I, cbJ_22 J)) Q := (pm_bk_iff pc_ch_80 11 0 _).trans (pc_le0 (v := 7) (by decide))
theorem cb_c13_s1 {d L : Nat} {I : Nat → Nat → Int32} {J : Nat → Nat → Int64} {Q : Int32 → Int64 → pm_H → Prop} : pm_wp pm_code pm_meta d 80 19 ([.ref 179, .int 7, .int 1], [.ref 179], ((cbT_180 L, cbO_42, 180, 19385), cbI_44 I, cbJ_22 J)) Q ↔ pm_wp pm_code pm_meta d 80 23 ([.ref 179, .int 7, .int 1], [.ref 179], ((cbT_180 L, cbO_42, 180, 19385), cbI_44 I, cbJ_22 J)) Q := (pm_bk_iff pc_ch_80 2 19 _).trans (pc_le0 (v := 1) (by decide))
theorem cb_c13_s2 {d L : Nat} {I : Nat → Nat → Int32} {J : Nat → Nat → Int64} {Q : Int32 → Int64 → pm_H → Prop} : pm_wp pm_code pm_meta d 80 23 ([.ref 179, .int 7, .int 1], [.ref 179], ((cbT_180 L, cbO_42, 180, 19385), cbI_44 I, cbJ_22 J)) Q ↔ pm_wp pm_code pm_meta d 80 30 ([.ref 179, .int 7, .int 1], [.int (7 * 1), .ref 179], ((cbT_180 L, cbO_42, 180, 19385), cbI_44 I, cbJ_22 J)) Q := (pm_bk_iff pc_ch_80 4 23 _).trans (Iff.rfl)
theorem cb_c13_s3 {d L : Nat} {I : Nat → Nat → Int32} {J : Nat → Nat → Int64} {Q : Int32 → Int64 → pm_H → Prop} : pm_wp pm_code pm_meta d 80 30 ([.ref 179, .int 7, .int 1], [.int (7 * 1), .ref 179], ((cbT_180 L, cbO_42, 180, 19385), cbI_44 I, cbJ_22 J)) Q ↔ Q 0 0 ((cbT_181 L, cbO_44, 181, 19392), cbI_45 I, cbJ_23 J) := (pm_bk_iff pc_ch_80 3 30 _).trans (pm_tt.trans (pm_tt))
theorem cb_c13 {d L : Nat} {I : Nat → Nat → Int32} {J : Nat → Nat → Int64} {Q : Int32 → Int64 → pm_H → Prop} : pm_wc pm_code pm_meta d 80 [.ref 179, .int 7, .int 1] ((cbT_180 L, cbO_42, 180, 19385), cbI_42 I, cbJ_22 J) Q ↔ Q 0 0 ((cbT_181 L, cbO_44, 181, 19392), cbI_45 I, cbJ_23 J) := by
  rw [cb_c13_s0, cb_c13_s1, cb_c13_s2, cb_c13_s3]
theorem cb_c2_s22 {d L : Nat} {I : Nat → Nat → Int32} {J : Nat → Nat → Int64} {Q : Int32 → Int64 → pm_H → Prop} : pm_wp pm_code pm_meta (d + 1) 25 158 ([.ref 158, pm_unset, pm_unset], [.ref 179, .ref 158], ((cbT_181 L, cbO_44, 181, 19392), cbI_45 I, cbJ_23 J)) Q ↔ pm_wc pm_code pm_meta d 80 [.ref 181, .int 3, .int 1] ((cbT_182 L, cbO_46, 182, 19396), cbI_46 I, cbJ_24 J) (fun v w H => pm_wp pm_code pm_meta (d + 1) 25 171 ([.ref 158, pm_unset, pm_unset], [.ref 181, .ref 158], H) Q) := (pm_bk_iff pc_ch_25 7 158 _).trans (Iff.rfl)
theorem cb_c14_s0 {d L : Nat} {I : Nat → Nat → Int32} {J : Nat → Nat → Int64} {Q : Int32 → Int64 → pm_H → Prop} : pm_wc pm_code pm_meta d 80 [.ref 181, .int 3, .int 1] ((cbT_182 L, cbO_46, 182, 19396), cbI_46 I, cbJ_24 J) Q ↔ pm_wp pm_code pm_meta d 80 19 ([.ref 181, .int 3, .int 1], [.ref 181], ((cbT_182 L, cbO_46, 182, 19396), cbI_48 I, cbJ_24 J)) Q := (pm_bk_iff pc_ch_80 11 0 _).trans (pc_le0 (v := 3) (by decide))
theorem cb_c14_s1 {d L : Nat} {I : Nat → Nat → Int32} {J : Nat → Nat → Int64} {Q : Int32 → Int64 → pm_H → Prop} : pm_wp pm_code pm_meta d 80 19 ([.ref 181, .int 3, .int 1], [.ref 181], ((cbT_182 L, cbO_46, 182, 19396), cbI_48 I, cbJ_24 J)) Q ↔ pm_wp pm_code pm_meta d 80 23 ([.ref 181, .int 3, .int 1], [.ref 181], ((cbT_182 L, cbO_46, 182, 19396), cbI_48 I, cbJ_24 J)) Q := (pm_bk_iff pc_ch_80 2 19 _).trans (pc_le0 (v := 1) (by decide))
theorem cb_c14_s2 {d L : Nat} {I : Nat → Nat → Int32} {J : Nat → Nat → Int64} {Q : Int32 → Int64 → pm_H → Prop} : pm_wp pm_code pm_meta d 80 23 ([.ref 181, .int 3, .int 1], [.ref 181], ((cbT_182 L, cbO_46, 182, 19396), cbI_48 I, cbJ_24 J)) Q ↔ pm_wp pm_code pm_meta d 80 30 ([.ref 181, .int 3, .int 1], [.int (3 * 1), .ref 181], ((cbT_182 L, cbO_46, 182, 19396), cbI_48 I, cbJ_24 J)) Q := (pm_bk_iff pc_ch_80 4 23 _).trans (Iff.rfl)
theorem cb_c14_s3 {d L : Nat} {I : Nat → Nat → Int32} {J : Nat → Nat → Int64} {Q : Int32 → Int64 → pm_H → Prop} : pm_wp pm_code pm_meta d 80 30 ([.ref 181, .int 3, .int 1], [.int (3 * 1), .ref 181], ((cbT_182 L, cbO_46, 182, 19396), cbI_48 I, cbJ_24 J)) Q ↔ Q 0 0 ((cbT_183 L, cbO_48, 183, 19399), cbI_49 I, cbJ_25 J) := (pm_bk_iff pc_ch_80 3 30 _).trans (pm_tt.trans (pm_tt))
theorem cb_c14 {d L : Nat} {I : Nat → Nat → Int32} {J : Nat → Nat → Int64} {Q : Int32 → Int64 → pm_H → Prop} : pm_wc pm_code pm_meta d 80 [.ref 181, .int 3, .int 1] ((cbT_182 L, cbO_46, 182, 19396), cbI_46 I, cbJ_24 J) Q ↔ Q 0 0 ((cbT_183 L, cbO_48, 183, 19399), cbI_49 I, cbJ_25 J) := by
  rw [cb_c14_s0, cb_c14_s1, cb_c14_s2, cb_c14_s3]
theorem cb_c2_s24 {d L : Nat} {I : Nat → Nat → Int32} {J : Nat → Nat → Int64} {Q : Int32 → Int64 → pm_H → Prop} : pm_wp pm_code pm_meta (d + 1) 25 171 ([.ref 158, pm_unset, pm_unset], [.ref 181, .ref 158], ((cbT_183 L, cbO_48, 183, 19399), cbI_49 I, cbJ_25 J)) Q ↔ pm_wc pm_code pm_meta d 80 [.ref 183, .int 24, .int 6] ((cbT_184 L, cbO_50, 184, 19403), cbI_50 I, cbJ_26 J) (fun v w H => pm_wp pm_code pm_meta (d + 1) 25 186 ([.ref 158, pm_unset, pm_unset], [.ref 183, .ref 158], H) Q) := (pm_bk_iff pc_ch_25 7 171 _).trans (Iff.rfl)
theorem cb_c15_s0 {d L : Nat} {I : Nat → Nat → Int32} {J : Nat → Nat → Int64} {Q : Int32 → Int64 → pm_H → Prop} : pm_wc pm_code pm_meta d 80 [.ref 183, .int 24, .int 6] ((cbT_184 L, cbO_50, 184, 19403), cbI_50 I, cbJ_26 J) Q ↔ pm_wp pm_code pm_meta d 80 19 ([.ref 183, .int 24, .int 6], [.ref 183], ((cbT_184 L, cbO_50, 184, 19403), cbI_52 I, cbJ_26 J)) Q := (pm_bk_iff pc_ch_80 11 0 _).trans (pc_le0 (v := 24) (by decide))
theorem cb_c15_s1 {d L : Nat} {I : Nat → Nat → Int32} {J : Nat → Nat → Int64} {Q : Int32 → Int64 → pm_H → Prop} : pm_wp pm_code pm_meta d 80 19 ([.ref 183, .int 24, .int 6], [.ref 183], ((cbT_184 L, cbO_50, 184, 19403), cbI_52 I, cbJ_26 J)) Q ↔ pm_wp pm_code pm_meta d 80 23 ([.ref 183, .int 24, .int 6], [.ref 183], ((cbT_184 L, cbO_50, 184, 19403), cbI_52 I, cbJ_26 J)) Q := (pm_bk_iff pc_ch_80 2 19 _).trans (pc_le0 (v := 6) (by decide))
theorem cb_c15_s2 {d L : Nat} {I : Nat → Nat → Int32} {J : Nat → Nat → Int64} {Q : Int32 → Int64 → pm_H → Prop} : pm_wp pm_code pm_meta d 80 23 ([.ref 183, .int 24, .int 6], [.ref 183], ((cbT_184 L, cbO_50, 184, 19403), cbI_52 I, cbJ_26 J)) Q ↔ pm_wp pm_code pm_meta d 80 30 ([.ref 183, .int 24, .int 6], [.int (24 * 6), .ref 183], ((cbT_184 L, cbO_50, 184, 19403), cbI_52 I, cbJ_26 J)) Q := (pm_bk_iff pc_ch_80 4 23 _).trans (Iff.rfl)
theorem cb_c15_s3 {d L : Nat} {I : Nat → Nat → Int32} {J : Nat → Nat → Int64} {Q : Int32 → Int64 → pm_H → Prop} : pm_wp pm_code pm_meta d 80 30 ([.ref 183, .int 24, .int 6], [.int (24 * 6), .ref 183], ((cbT_184 L, cbO_50, 184, 19403), cbI_52 I, cbJ_26 J)) Q ↔ Q 0 0 ((cbT_185 L, cbO_52, 185, 19547), cbI_53 I, cbJ_27 J) := (pm_bk_iff pc_ch_80 3 30 _).trans (pm_tt.trans (pm_tt))
theorem cb_c15 {d L : Nat} {I : Nat → Nat → Int32} {J : Nat → Nat → Int64} {Q : Int32 → Int64 → pm_H → Prop} : pm_wc pm_code pm_meta d 80 [.ref 183, .int 24, .int 6] ((cbT_184 L, cbO_50, 184, 19403), cbI_50 I, cbJ_26 J) Q ↔ Q 0 0 ((cbT_185 L, cbO_52, 185, 19547), cbI_53 I, cbJ_27 J) := by
  rw [cb_c15_s0, cb_c15_s1, cb_c15_s2, cb_c15_s3]
theorem cb_c2_s26 {d L : Nat} {I : Nat → Nat → Int32} {J : Nat → Nat → Int64} {Q : Int32 → Int64 → pm_H → Prop} : pm_wp pm_code pm_meta (d + 1) 25 186 ([.ref 158, pm_unset, pm_unset], [.ref 183, .ref 158], ((cbT_185 L, cbO_52, 185, 19547), cbI_53 I, cbJ_27 J)) Q ↔ pm_wc pm_code pm_meta d 86 [.ref 175] ((cbT_185 L, cbO_53, 185, 19547), cbI_53 I, cbJ_27 J) (fun v w H => pm_wp pm_code pm_meta (d + 1) 25 196 ([.ref 158, pm_unset, pm_unset], [], H) Q) := (pm_bk_iff pc_ch_25 4 186 _).trans (Iff.rfl)
theorem cb_aa175_0 {d L : Nat} {I : Nat → Nat → Int32} {J : Nat → Nat → Int64} {Q : Int32 → Int64 → pm_H → Prop}  : pm_wc pm_code pm_meta d 86 [.ref 175] ((cbT_185 L, cbO_53, 185, 19547), I, J) Q ↔ pm_wp pm_code pm_meta d 86 5 ([.ref 175, .int (I 175 3)], [], ((cbT_185 L, cbO_53, 185, 19547), I, J)) Q := (pm_bk_iff pc_ch_86 3 0 _).trans (Iff.rfl)
theorem cb_aa175_5 {d L : Nat} {I : Nat → Nat → Int32} {J : Nat → Nat → Int64} {Q : Int32 → Int64 → pm_H → Prop} {x1 : Int32} : pm_wp pm_code pm_meta d 86 5 ([.ref 175, .int x1], [], ((cbT_185 L, cbO_53, 185, 19547), I, J)) Q ↔ if (I 175 2) ≤ x1 then pm_wp pm_code pm_meta d 86 24 ([.ref 175, .int x1], [], ((cbT_185 L, cbO_53, 185, 19547), I, J)) Q else pm_wp pm_code pm_meta d 86 13 ([.ref 175, .int x1], [], ((cbT_185 L, cbO_53, 185, 19547), I, J)) Q := (pm_bk_iff pc_ch_86 4 5 _).trans (pm_brd)
theorem cb_aa175_24 {d L : Nat} {I : Nat → Nat → Int32} {J : Nat → Nat → Int64} {Q : Int32 → Int64 → pm_H → Prop} {x1 : Int32} : pm_wp pm_code pm_meta d 86 24 ([.ref 175, .int x1], [], ((cbT_185 L, cbO_53, 185, 19547), I, J)) Q ↔ Q 0 0 ((cbT_185 L, cbO_53, 185, 19547), I, J) := (pm_bk_iff pc_ch_86 1 24 _).trans (pm_tt)
theorem cb_aa175_13 {d L : Nat} {I : Nat → Nat → Int32} {J : Nat → Nat → Int64} {Q : Int32 → Int64 → pm_H → Prop} {x1 : Int32} : pm_wp pm_code pm_meta (d + 1) 86 13 ([.ref 175, .int x1], [], ((cbT_185 L, cbO_53, 185, 19547), I, J)) Q ↔ pm_wc pm_code pm_meta d 85 [.ref 175] ((cbT_185 L, cbO_53, 185, 19547), I, J) (fun v w H => pm_wp pm_code pm_meta (d + 1) 86 17 ([.ref 175, .int x1], [.int v], H) Q) := (pm_bk_iff pc_ch_86 2 13 _).trans (Iff.rfl)
theorem cb_aa175_17 {d L : Nat} {I : Nat → Nat → Int32} {J : Nat → Nat → Int64} {Q : Int32 → Int64 → pm_H → Prop} {x1 s0 : Int32} : pm_wp pm_code pm_meta d 86 17 ([.ref 175, .int x1], [.int s0], ((cbT_185 L, cbO_53, 185, 19547), I, J)) Q ↔ pm_wp pm_code pm_meta d 86 5 ([.ref 175, .int (x1 + 1)], [], ((cbT_185 L, cbO_53, 185, 19547), I, J)) Q := (pm_bk_iff pc_ch_86 3 17 _).trans (Iff.rfl)
theorem cb_ad175_0 {d L : Nat} {I : Nat → Nat → Int32} {J : Nat → Nat → Int64} {Q : Int32 → Int64 → pm_H → Prop}  : pm_wc pm_code pm_meta d 85 [.ref 175] ((cbT_185 L, cbO_53, 185, 19547), I, J) Q ↔ if (I 175 3) < (I 175 2) then pm_wp pm_code pm_meta d 85 14 ([.ref 175, pm_unset], [], ((cbT_185 L, cbO_53, 185, 19547), I, J)) Q else pm_wp pm_code pm_meta d 85 11 ([.ref 175, pm_unset], [], ((cbT_185 L, cbO_53, 185, 19547), I, J)) Q := (pm_bk_iff pc_ch_85 5 0 _).trans (pm_brd)
theorem cb_ad175_14 {d L : Nat} {I : Nat → Nat → Int32} {J : Nat → Nat → Int64} {Q : Int32 → Int64 → pm_H → Prop}  : pm_wp pm_code pm_meta d 85 14 ([.ref 175, pm_unset], [], ((cbT_185 L, cbO_53, 185, 19547), I, J)) Q ↔ pm_wp pm_code pm_meta d 85 24 ([.ref 175, .int ((I 175 3) * (I 175 1))], [], ((cbT_185 L, cbO_53, 185, 19547), I, J)) Q := (pm_bk_iff pc_ch_85 6 14 _).trans (Iff.rfl)
theorem cb_ad175_11 {d L : Nat} {I : Nat → Nat → Int32} {J : Nat → Nat → Int64} {Q : Int32 → Int64 → pm_H → Prop}  : pm_wp pm_code pm_meta d 85 11 ([.ref 175, pm_unset], [], ((cbT_185 L, cbO_53, 185, 19547), I, J)) Q ↔ Q (-2) 0 ((cbT_185 L, cbO_53, 185, 19547), I, J) := (pm_bk_iff pc_ch_85 2 11 _).trans (pm_tt)
theorem cb_ad175_24 {d L : Nat} {I : Nat → Nat → Int32} {J : Nat → Nat → Int64} {Q : Int32 → Int64 → pm_H → Prop} {x1 : Int32} : pm_wp pm_code pm_meta d 85 24 ([.ref 175, .int x1], [], ((cbT_185 L, cbO_53, 185, 19547), I, J)) Q ↔ if (((I 175 3) + 1) * (I 175 1)) ≤ x1 then pm_wp pm_code pm_meta d 85 52 ([.ref 175, .int x1], [], ((cbT_185 L, cbO_53, 185, 19547), I, J)) Q else pm_wp pm_code pm_meta d 85 39 ([.ref 175, .int x1], [], ((cbT_185 L, cbO_53, 185, 19547), I, J)) Q := (pm_bk_iff pc_ch_85 9 24 _).trans (pm_brd)
theorem cb_ad175_52 {d L : Nat} {I : Nat → Nat → Int32} {J : Nat → Nat → Int64} {Q : Int32 → Int64 → pm_H → Prop} {x1 : Int32} : pm_wp pm_code pm_meta d 85 52 ([.ref 175, .int x1], [], ((cbT_185 L, cbO_53, 185, 19547), I, J)) Q ↔ Q (((pm_u I 175 3 ((I 175 3) + 1)) 175 3) - 1) 0 ((cbT_185 L, cbO_53, 185, 19547), (pm_u I 175 3 ((I 175 3) + 1)), J) := (pm_bk_iff pc_ch_85 11 52 _).trans (pm_tt)
theorem cb_ad175_39 {d L : Nat} {I : Nat → Nat → Int32} {J : Nat → Nat → Int64} {Q : Int32 → Int64 → pm_H → Prop} {x1 : Int32} : pm_wp pm_code pm_meta d 85 39 ([.ref 175, .int x1], [], ((cbT_185 L, cbO_53, 185, 19547), I, J)) Q ↔ pm_in x1 4 = true ∧ (pm_wp pm_code pm_meta d 85 24 ([.ref 175, .int (x1 + 1)], [], ((cbT_185 L, cbO_53, 185, 19547), (pm_u I 176 x1.toNatClampNeg 0), J)) Q) := (pm_bk_iff pc_ch_85 7 39 _).trans (and_congr Iff.rfl (Iff.rfl))
theorem cb_add_175 {d L : Nat} {I : Nat → Nat → Int32} {J : Nat → Nat → Int64} {Q : Int32 → Int64 → pm_H → Prop} (ht : pm_ti (I 175) 1 4) (hn : I 175 3 < 4) (hz : ∀ j, I 176 j = 0) : pm_wc pm_code pm_meta d 85 [.ref 175] ((cbT_185 L, cbO_53, 185, 19547), I, J) Q ↔ Q (I 175 3) 0 ((cbT_185 L, cbO_53, 185, 19547), pm_u I 175 3 (I 175 3 + 1), J) := by
  obtain ⟨h1, h2, h3, h4⟩ := ht
  have h3' := h3
  have hn' := hn
  rw [pi_le, pi_0] at h3'
  rw [pi_lt] at hn'
  have hl : (4 : Int32).toInt = 4 := rfl
  have hw : (1 : Int32).toInt = 1 := rfl
  have g1 : (I 175 3 + 1).toInt = (I 175 3).toInt + 1 := by rw [pi_add (by rw [pi_1]; omega) (by rw [pi_1]; omega), pi_1]
  have g2 : ((I 175 3 + 1) * I 175 1).toInt = ((I 175 3).toInt + 1) * 1 := by rw [h1, pi_mul (by rw [g1, hw]; omega) (by rw [g1, hw]; omega), g1, hw]
  have g3 : (I 175 3 * I 175 1).toInt = (I 175 3).toInt * 1 := by rw [h1, pi_mul (by rw [hw]; omega) (by rw [hw]; omega), hw]
  rw [cb_ad175_0, h2, if_pos hn, cb_ad175_14]
  have hA : ∀ x I', I' 175 = I 175 → (pm_wp pm_code pm_meta d 85 24 ([.ref 175, .int x], [], ((cbT_185 L, cbO_53, 185, 19547), I', J)) Q ↔ if (I 175 3 + 1) * I 175 1 ≤ x then pm_wp pm_code pm_meta d 85 52 ([.ref 175, .int x], [], ((cbT_185 L, cbO_53, 185, 19547), I', J)) Q else pm_in x 4 = true ∧ pm_wp pm_code pm_meta d 85 24 ([.ref 175, .int (x + 1)], [], ((cbT_185 L, cbO_53, 185, 19547), pm_u I' 176 x.toNatClampNeg 0, J)) Q) := by
    intro x I' hr
    rw [cb_ad175_24, hr, cb_ad175_39]
  rw [pm_add_loop (A := fun x I' => pm_wp pm_code pm_meta d 85 24 ([.ref 175, .int x], [], ((cbT_185 L, cbO_53, 185, 19547), I', J)) Q) (E := fun x I' => pm_wp pm_code pm_meta d 85 52 ([.ref 175, .int x], [], ((cbT_185 L, cbO_53, 185, 19547), I', J)) Q) (by decide) hA 1 _ I rfl (by rw [pi_le, pi_0]; omega) (by omega) (by omega)]
  rw [pc_zr0 hz, cb_ad175_52, pm_u_row, if_pos rfl, pm_w_at, if_pos rfl, pm_inc_sub]
theorem cb_aAll_175 {d L : Nat} {I : Nat → Nat → Int32} {J : Nat → Nat → Int64} {Q : Int32 → Int64 → pm_H → Prop} (h1 : I 175 1 = 1) (h2 : I 175 2 = 4) (h3 : I 175 3 = 0) (hz : ∀ j, I 176 j = 0) : pm_wc pm_code pm_meta (d + 1) 86 [.ref 175] ((cbT_185 L, cbO_53, 185, 19547), I, J) Q ↔ Q 0 0 ((cbT_185 L, cbO_53, 185, 19547), pm_u I 175 3 4, J) := by
  have key : ∀ (k m : Nat), m + k = 4 → (pm_wp pm_code pm_meta (d + 1) 86 5 ([.ref 175, .int (Int32.ofNat m)], [], ((cbT_185 L, cbO_53, 185, 19547), pm_u I 175 3 (Int32.ofNat m), J)) Q ↔ Q 0 0 ((cbT_185 L, cbO_53, 185, 19547), pm_u I 175 3 4, J)) := by
    intro k
    induction k with
    | zero =>
      intro m hm
      have em : m = 4 := by omega
      subst em
      have e2 : pm_u I 175 3 (Int32.ofNat 4) 175 2 = 4 := by rw [pm_u_row, if_pos rfl, pm_w_ne (by decide)]; exact h2
      rw [cb_aa175_5, e2, if_pos (by decide), cb_aa175_24]
      exact Iff.rfl
    | succ k ih =>
      intro m hm
      have g := on_n (a := m) (by omega)
      have e1 : pm_u I 175 3 (Int32.ofNat m) 175 1 = 1 := by rw [pm_u_row, if_pos rfl, pm_w_ne (by decide)]; exact h1
      have e2 : pm_u I 175 3 (Int32.ofNat m) 175 2 = 4 := by rw [pm_u_row, if_pos rfl, pm_w_ne (by decide)]; exact h2
      have e3 : pm_u I 175 3 (Int32.ofNat m) 175 3 = Int32.ofNat m := by rw [pm_u_at]
      have hl : (4 : Int32) = Int32.ofNat 4 := rfl
      have lt : Int32.ofNat m < 4 := by rw [hl, on_lt (by omega) (by omega)]; omega
      have le : Int32.ofNat m ≤ 4 := by rw [hl, on_le (by omega) (by omega)]; omega
      have ez : ∀ j, pm_u I 175 3 (Int32.ofNat m) 176 j = 0 := fun j => by rw [pm_u_row, if_neg (by decide)]; exact hz j
      rw [cb_aa175_5, e2, if_neg (Int32.not_le.mpr lt), cb_aa175_13, cb_add_175 ⟨e1, e2, by rw [e3]; exact g.1, by rw [e3]; exact le⟩ (by rw [e3]; exact lt) ez, e3, cb_aa175_17, on_s, pc_uu]
      exact ih (m + 1) (by omega)
  have e0 : pm_u I 175 3 (Int32.ofNat 0) = I := pc_u0 (by rw [h3]; rfl)
  have z := key 4 0 (by omega)
  rw [e0] at z
  rw [cb_aa175_0, h3]
  exact z
theorem cb_c16 {d L : Nat} {I : Nat → Nat → Int32} {J : Nat → Nat → Int64} {Q : Int32 → Int64 → pm_H → Prop} : pm_wc pm_code pm_meta (d + 1) 86 [.ref 175] ((cbT_185 L, cbO_53, 185, 19547), cbI_53 I, cbJ_27 J) Q ↔ Q 0 0 ((cbT_185 L, cbO_53, 185, 19547), cbI_54 I, cbJ_27 J) := cb_aAll_175 rfl rfl rfl (fun _ => rfl)
theorem cb_c2_s28 {d L : Nat} {I : Nat → Nat → Int32} {J : Nat → Nat → Int64} {Q : Int32 → Int64 → pm_H → Prop} : pm_wp pm_code pm_meta (d + 1) 25 196 ([.ref 158, pm_unset, pm_unset], [], ((cbT_185 L, cbO_53, 185, 19547), cbI_54 I, cbJ_27 J)) Q ↔ pm_wc pm_code pm_meta d 86 [.ref 159] ((cbT_185 L, cbO_53, 185, 19547), cbI_54 I, cbJ_27 J) (fun v w H => pm_wp pm_code pm_meta (d + 1) 25 203 ([.ref 158, pm_unset, pm_unset], [], H) Q) := (pm_bk_iff pc_ch_25 3 196 _).trans (Iff.rfl)
theorem cb_aa159_0 {d L : Nat} {I : Nat → Nat → Int32} {J : Nat → Nat → Int64} {Q : Int32 → Int64 → pm_H → Prop}  : pm_wc pm_code pm_meta d 86 [.ref 159] ((cbT_185 L, cbO_53, 185, 19547), I, J) Q ↔ pm_wp pm_code pm_meta d 86 5 ([.ref 159, .int (I 159 3)], [], ((cbT_185 L, cbO_53, 185, 19547), I, J)) Q := (pm_bk_iff pc_ch_86 3 0 _).trans (Iff.rfl)
theorem cb_aa159_5 {d L : Nat} {I : Nat → Nat → Int32} {J : Nat → Nat → Int64} {Q : Int32 → Int64 → pm_H → Prop} {x1 : Int32} : pm_wp pm_code pm_meta d 86 5 ([.ref 159, .int x1], [], ((cbT_185 L, cbO_53, 185, 19547), I, J)) Q ↔ if (I 159 2) ≤ x1 then pm_wp pm_code pm_meta d 86 24 ([.ref 159, .int x1], [], ((cbT_185 L, cbO_53, 185, 19547), I, J)) Q else pm_wp pm_code pm_meta d 86 13 ([.ref 159, .int x1], [], ((cbT_185 L, cbO_53, 185, 19547), I, J)) Q := (pm_bk_iff pc_ch_86 4 5 _).trans (pm_brd)
theorem cb_aa159_24 {d L : Nat} {I : Nat → Nat → Int32} {J : Nat → Nat → Int64} {Q : Int32 → Int64 → pm_H → Prop} {x1 : Int32} : pm_wp pm_code pm_meta d 86 24 ([.ref 159, .int x1], [], ((cbT_185 L, cbO_53, 185, 19547), I, J)) Q ↔ Q 0 0 ((cbT_185 L, cbO_53, 185, 19547), I, J) := (pm_bk_iff pc_ch_86 1 24 _).trans (pm_tt)
theorem cb_aa159_13 {d L : Nat} {I : Nat → Nat → Int32} {J : Nat → Nat → Int64} {Q : Int32 → Int64 → pm_H → Prop} {x1 : Int32} : pm_wp pm_code pm_meta (d + 1) 86 13 ([.ref 159, .int x1], [], ((cbT_185 L, cbO_53, 185, 19547), I, J)) Q ↔ pm_wc pm_code pm_meta d 85 [.ref 159] ((cbT_185 L, cbO_53, 185, 19547), I, J) (fun v w H => pm_wp pm_code pm_meta (d + 1) 86 17 ([.ref 159, .int x1], [.int v], H) Q) := (pm_bk_iff pc_ch_86 2 13 _).trans (Iff.rfl)
theorem cb_aa159_17 {d L : Nat} {I : Nat → Nat → Int32} {J : Nat → Nat → Int64} {Q : Int32 → Int64 → pm_H → Prop} {x1 s0 : Int32} : pm_wp pm_code pm_meta d 86 17 ([.ref 159, .int x1], [.int s0], ((cbT_185 L, cbO_53, 185, 19547), I, J)) Q ↔ pm_wp pm_code pm_meta d 86 5 ([.ref 159, .int (x1 + 1)], [], ((cbT_185 L, cbO_53, 185, 19547), I, J)) Q := (pm_bk_iff pc_ch_86 3 17 _).trans (Iff.rfl)
theorem cb_ad159_0 {d L : Nat} {I : Nat → Nat → Int32} {J : Nat → Nat → Int64} {Q : Int32 → Int64 → pm_H → Prop}  : pm_wc pm_code pm_meta d 85 [.ref 159] ((cbT_185 L, cbO_53, 185, 19547), I, J) Q ↔ if (I 159 3) < (I 159 2) then pm_wp pm_code pm_meta d 85 14 ([.ref 159, pm_unset], [], ((cbT_185 L, cbO_53, 185, 19547), I, J)) Q else pm_wp pm_code pm_meta d 85 11 ([.ref 159, pm_unset], [], ((cbT_185 L, cbO_53, 185, 19547), I, J)) Q := (pm_bk_iff pc_ch_85 5 0 _).trans (pm_brd)
theorem cb_ad159_14 {d L : Nat} {I : Nat → Nat → Int32} {J : Nat → Nat → Int64} {Q : Int32 → Int64 → pm_H → Prop}  : pm_wp pm_code pm_meta d 85 14 ([.ref 159, pm_unset], [], ((cbT_185 L, cbO_53, 185, 19547), I, J)) Q ↔ pm_wp pm_code pm_meta d 85 24 ([.ref 159, .int ((I 159 3) * (I 159 1))], [], ((cbT_185 L, cbO_53, 185, 19547), I, J)) Q := (pm_bk_iff pc_ch_85 6 14 _).trans (Iff.rfl)
theorem cb_ad159_11 {d L : Nat} {I : Nat → Nat → Int32} {J : Nat → Nat → Int64} {Q : Int32 → Int64 → pm_H → Prop}  : pm_wp pm_code pm_meta d 85 11 ([.ref 159, pm_unset], [], ((cbT_185 L, cbO_53, 185, 19547), I, J)) Q ↔ Q (-2) 0 ((cbT_185 L, cbO_53, 185, 19547), I, J) := (pm_bk_iff pc_ch_85 2 11 _).trans (pm_tt)
theorem cb_ad159_24 {d L : Nat} {I : Nat → Nat → Int32} {J : Nat → Nat → Int64} {Q : Int32 → Int64 → pm_H → Prop} {x1 : Int32} : pm_wp pm_code pm_meta d 85 24 ([.ref 159, .int x1], [], ((cbT_185 L, cbO_53, 185, 19547), I, J)) Q ↔ if (((I 159 3) + 1) * (I 159 1)) ≤ x1 then pm_wp pm_code pm_meta d 85 52 ([.ref 159, .int x1], [], ((cbT_185 L, cbO_53, 185, 19547), I, J)) Q else pm_wp pm_code pm_meta d 85 39 ([.ref 159, .int x1], [], ((cbT_185 L, cbO_53, 185, 19547), I, J)) Q := (pm_bk_iff pc_ch_85 9 24 _).trans (pm_brd)
theorem cb_ad159_52 {d L : Nat} {I : Nat → Nat → Int32} {J : Nat → Nat → Int64} {Q : Int32 → Int64 → pm_H → Prop} {x1 : Int32} : pm_wp pm_code pm_meta d 85 52 ([.ref 159, .int x1], [], ((cbT_185 L, cbO_53, 185, 19547), I, J)) Q ↔ Q (((pm_u I 159 3 ((I 159 3) + 1)) 159 3) - 1) 0 ((cbT_185 L, cbO_53, 185, 19547), (pm_u I 159 3 ((I 159 3) + 1)), J) := (pm_bk_iff pc_ch_85 11 52 _).trans (pm_tt)
theorem cb_ad159_39 {d L : Nat} {I : Nat → Nat → Int32} {J : Nat → Nat → Int64} {Q : Int32 → Int64 → pm_H → Prop} {x1 : Int32} : pm_wp pm_code pm_meta d 85 39 ([.ref 159, .int x1], [], ((cbT_185 L, cbO_53, 185, 19547), I, J)) Q ↔ pm_in x1 100 = true ∧ (pm_wp pm_code pm_meta d 85 24 ([.ref 159, .int (x1 + 1)], [], ((cbT_185 L, cbO_53, 185, 19547), (pm_u I 160 x1.toNatClampNeg 0), J)) Q) := (pm_bk_iff pc_ch_85 7 39 _).trans (and_congr Iff.rfl (Iff.rfl))
theorem cb_add_159 {d L : Nat} {I : Nat → Nat → Int32} {J : Nat → Nat → Int64} {Q : Int32 → Int64 → pm_H → Prop} (ht : pm_ti (I 159) 10 10) (hn : I 159 3 < 10) (hz : ∀ j, I 160 j = 0) : pm_wc pm_code pm_meta d 85 [.ref 159] ((cbT_185 L, cbO_53, 185, 19547), I, J) Q ↔ Q (I 159 3) 0 ((cbT_185 L, cbO_53, 185, 19547), pm_u I 159 3 (I 159 3 + 1), J) := by
  obtain ⟨h1, h2, h3, h4⟩ := ht
  have h3' := h3
  have hn' := hn
  rw [pi_le, pi_0] at h3'
  rw [pi_lt] at hn'
  have hl : (10 : Int32).toInt = 10 := rfl
  have hw : (10 : Int32).toInt = 10 := rfl
  have g1 : (I 159 3 + 1).toInt = (I 159 3).toInt + 1 := by rw [pi_add (by rw [pi_1]; omega) (by rw [pi_1]; omega), pi_1]
  have g2 : ((I 159 3 + 1) * I 159 1).toInt = ((I 159 3).toInt + 1) * 10 := by rw [h1, pi_mul (by rw [g1, hw]; omega) (by rw [g1, hw]; omega), g1, hw]
  have g3 : (I 159 3 * I 159 1).toInt = (I 159 3).toInt * 10 := by rw [h1, pi_mul (by rw [hw]; omega) (by rw [hw]; omega), hw]
  rw [cb_ad159_0, h2, if_pos hn, cb_ad159_14]
  have hA : ∀ x I', I' 159 = I 159 → (pm_wp pm_code pm_meta d 85 24 ([.ref 159, .int x], [], ((cbT_185 L, cbO_53, 185, 19547), I', J)) Q ↔ if (I 159 3 + 1) * I 159 1 ≤ x then pm_wp pm_code pm_meta d 85 52 ([.ref 159, .int x], [], ((cbT_185 L, cbO_53, 185, 19547), I', J)) Q else pm_in x 100 = true ∧ pm_wp pm_code pm_meta d 85 24 ([.ref 159, .int (x + 1)], [], ((cbT_185 L, cbO_53, 185, 19547), pm_u I' 160 x.toNatClampNeg 0, J)) Q) := by
    intro x I' hr
    rw [cb_ad159_24, hr, cb_ad159_39]
  rw [pm_add_loop (A := fun x I' => pm_wp pm_code pm_meta d 85 24 ([.ref 159, .int x], [], ((cbT_185 L, cbO_53, 185, 19547), I', J)) Q) (E := fun x I' => pm_wp pm_code pm_meta d 85 52 ([.ref 159, .int x], [], ((cbT_185 L, cbO_53, 185, 19547), I', J)) Q) (by decide) hA 10 _ I rfl (by rw [pi_le, pi_0]; omega) (by omega) (by omega)]
  rw [pc_zr0 hz, cb_ad159_52, pm_u_row, if_pos rfl, pm_w_at, if_pos rfl, pm_inc_sub]
theorem cb_aAll_159 {d L : Nat} {I : Nat → Nat → Int32} {J : Nat → Nat → Int64} {Q : Int32 → Int64 → pm_H → Prop} (h1 : I 159 1 = 10) (h2 : I 159 2 = 10) (h3 : I 159 3 = 0) (hz : ∀ j, I 160 j = 0) : pm_wc pm_code pm_meta (d + 1) 86 [.ref 159] ((cbT_185 L, cbO_53, 185, 19547), I, J) Q ↔ Q 0 0 ((cbT_185 L, cbO_53, 185, 19547), pm_u I 159 3 10, J) := by
  have key : ∀ (k m : Nat), m + k = 10 → (pm_wp pm_code pm_meta (d + 1) 86 5 ([.ref 159, .int (Int32.ofNat m)], [], ((cbT_185 L, cbO_53, 185, 19547), pm_u I 159 3 (Int32.ofNat m), J)) Q ↔ Q 0 0 ((cbT_185 L, cbO_53, 185, 19547), pm_u I 159 3 10, J)) := by
    intro k
    induction k with
    | zero =>
      intro m hm
      have em : m = 10 := by omega
      subst em
      have e2 : pm_u I 159 3 (Int32.ofNat 10) 159 2 = 10 := by rw [pm_u_row, if_pos rfl, pm_w_ne (by decide)]; exact h2
      rw [cb_aa159_5, e2, if_pos (by decide), cb_aa159_24]
      exact Iff.rfl
    | succ k ih =>
      intro m hm
      have g := on_n (a := m) (by omega)
      have e1 : pm_u I 159 3 (Int32.ofNat m) 159 1 = 10 := by rw [pm_u_row, if_pos rfl, pm_w_ne (by decide)]; exact h1
      have e2 : pm_u I 159 3 (Int32.ofNat m) 159 2 = 10 := by rw [pm_u_row, if_pos rfl, pm_w_ne (by decide)]; exact h2
      have e3 : pm_u I 159 3 (Int32.ofNat m) 159 3 = Int32.ofNat m := by rw [pm_u_at]
      have hl : (10 : Int32) = Int32.ofNat 10 := rfl
      have lt : Int32.ofNat m < 10 := by rw [hl, on_lt (by omega) (by omega)]; omega
      have le : Int32.ofNat m ≤ 10 := by rw [hl, on_le (by omega) (by omega)]; omega
      have ez : ∀ j, pm_u I 159 3 (Int32.ofNat m) 160 j = 0 := fun j => by rw [pm_u_row, if_neg (by decide)]; exact hz j
      rw [cb_aa159_5, e2, if_neg (Int32.not_le.mpr lt), cb_aa159_13, cb_add_159 ⟨e1, e2, by rw [e3]; exact g.1, by rw [e3]; exact le⟩ (by rw [e3]; exact lt) ez, e3, cb_aa159_17, on_s, pc_uu]
      exact ih (m + 1) (by omega)
  have e0 : pm_u I 159 3 (Int32.ofNat 0) = I := pc_u0 (by rw [h3]; rfl)
  have z := key 10 0 (by omega)
  rw [e0] at z
  rw [cb_aa159_0, h3]
  exact z
theorem cb_c17 {d L : Nat} {I : Nat → Nat → Int32} {J : Nat → Nat → Int64} {Q : Int32 → Int64 → pm_H → Prop} : pm_wc pm_code pm_meta (d + 1) 86 [.ref 159] ((cbT_185 L, cbO_53, 185, 19547), cbI_54 I, cbJ_27 J) Q ↔ Q 0 0 ((cbT_185 L, cbO_53, 185, 19547), cbI_55 I, cbJ_27 J) := cb_aAll_159 rfl rfl rfl (fun _ => rfl)
theorem cb_c2_s30 {d L : Nat} {I : Nat → Nat → Int32} {J : Nat → Nat → Int64} {Q : Int32 → Int64 → pm_H → Prop} : pm_wp pm_code pm_meta d 25 203 ([.ref 158, pm_unset, pm_unset], [], ((cbT_185 L, cbO_53, 185, 19547), cbI_55 I, cbJ_27 J)) Q ↔ pm_wp pm_code pm_meta d 25 205 ([.ref 158, .int 0, pm_unset], [], ((cbT_185 L, cbO_53, 185, 19547), cbI_55 I, cbJ_27 J)) Q := (pm_bk_iff pc_ch_25 2 203 _).trans (Iff.rfl)
theorem cb_rd25_205 {d L : Nat} {I : Nat → Nat → Int32} {J : Nat → Nat → Int64} {Q : Int32 → Int64 → pm_H → Prop} {x1 : Int32} : pm_wp pm_code pm_meta d 25 205 ([.ref 158, .int x1, pm_unset], [], ((cbT_185 L, cbO_53, 185, 19547), I, J)) Q ↔ if 10 ≤ x1 then pm_wp pm_code pm_meta d 25 250 ([.ref 158, .int x1, pm_unset], [], ((cbT_185 L, cbO_53, 185, 19547), I, J)) Q else pm_wp pm_code pm_meta d 25 211 ([.ref 158, .int x1, pm_unset], [], ((cbT_185 L, cbO_53, 185, 19547), I, J)) Q := (pm_bk_iff pc_ch_25 3 205 _).trans (pm_brd)
theorem cb_rd25_250 {d L : Nat} {I : Nat → Nat → Int32} {J : Nat → Nat → Int64} {Q : Int32 → Int64 → pm_H → Prop} {x1 : Int32} : pm_wp pm_code pm_meta d 25 250 ([.ref 158, .int x1, pm_unset], [], ((cbT_185 L, cbO_53, 185, 19547), I, J)) Q ↔ Q 0 0 ((cbT_185 L, cbO_53, 185, 19547), I, J) := (pm_bk_iff pc_ch_25 1 250 _).trans (pm_tt)
theorem cb_rd25_211 {d L : Nat} {I : Nat → Nat → Int32} {J : Nat → Nat → Int64} {Q : Int32 → Int64 → pm_H → Prop} {x1 : Int32} : pm_wp pm_code pm_meta d 25 211 ([.ref 158, .int x1, pm_unset], [], ((cbT_185 L, cbO_53, 185, 19547), I, J)) Q ↔ pm_wp pm_code pm_meta d 25 213 ([.ref 158, .int x1, .int 0], [], ((cbT_185 L, cbO_53, 185, 19547), I, J)) Q := (pm_bk_iff pc_ch_25 2 211 _).trans (Iff.rfl)
theorem cb_rd25_213 {d L : Nat} {I : Nat → Nat → Int32} {J : Nat → Nat → Int64} {Q : Int32 → Int64 → pm_H → Prop} {x1 x2 : Int32} : pm_wp pm_code pm_meta d 25 213 ([.ref 158, .int x1, .int x2], [], ((cbT_185 L, cbO_53, 185, 19547), I, J)) Q ↔ if 10 ≤ x2 then pm_wp pm_code pm_meta d 25 244 ([.ref 158, .int x1, .int x2], [], ((cbT_185 L, cbO_53, 185, 19547), I, J)) Q else pm_wp pm_code pm_meta d 25 219 ([.ref 158, .int x1, .int x2], [], ((cbT_185 L, cbO_53, 185, 19547), I, J)) Q := (pm_bk_iff pc_ch_25 3 213 _).trans (pm_brd)
theorem cb_rd25_244 {d L : Nat} {I : Nat → Nat → Int32} {J : Nat → Nat → Int64} {Q : Int32 → Int64 → pm_H → Prop} {x1 x2 : Int32} : pm_wp pm_code pm_meta d 25 244 ([.ref 158, .int x1, .int x2], [], ((cbT_185 L, cbO_53, 185, 19547), I, J)) Q ↔ pm_wp pm_code pm_meta d 25 205 ([.ref 158, .int (x1 + 1), .int x2], [], ((cbT_185 L, cbO_53, 185, 19547), I, J)) Q := (pm_bk_iff pc_ch_25 2 244 _).trans (Iff.rfl)
theorem cb_rd25_219 {d L : Nat} {I : Nat → Nat → Int32} {J : Nat → Nat → Int64} {Q : Int32 → Int64 → pm_H → Prop} {x1 x2 : Int32} : pm_wp pm_code pm_meta d 25 219 ([.ref 158, .int x1, .int x2], [], ((cbT_185 L, cbO_53, 185, 19547), I, J)) Q ↔ if x1 = x2 then pm_wp pm_code pm_meta d 25 230 ([.ref 158, .int x1, .int x2], [.int x2, .int x1, .ref 159], ((cbT_185 L, cbO_53, 185, 19547), I, J)) Q else pm_wp pm_code pm_meta d 25 234 ([.ref 158, .int x1, .int x2], [.int x2, .int x1, .ref 159], ((cbT_185 L, cbO_53, 185, 19547), I, J)) Q := (pm_bk_iff pc_ch_25 7 219 _).trans (pm_brn)
theorem cb_rd25_205b {d L : Nat} {I : Nat → Nat → Int32} {J : Nat → Nat → Int64} {Q : Int32 → Int64 → pm_H → Prop} {x1 x2 : Int32} : pm_wp pm_code pm_meta d 25 205 ([.ref 158, .int x1, .int x2], [], ((cbT_185 L, cbO_53, 185, 19547), I, J)) Q ↔ if 10 ≤ x1 then pm_wp pm_code pm_meta d 25 250 ([.ref 158, .int x1, .int x2], [], ((cbT_185 L, cbO_53, 185, 19547), I, J)) Q else pm_wp pm_code pm_meta d 25 211 ([.ref 158, .int x1, .int x2], [], ((cbT_185 L, cbO_53, 185, 19547), I, J)) Q := (pm_bk_iff pc_ch_25 3 205 _).trans (pm_brd)
theorem cb_rd25_230 {d L : Nat} {I : Nat → Nat → Int32} {J : Nat → Nat → Int64} {Q : Int32 → Int64 → pm_H → Prop} {x1 x2 s1 s2 : Int32} : pm_wp pm_code pm_meta d 25 230 ([.ref 158, .int x1, .int x2], [.int s2, .int s1, .ref 159], ((cbT_185 L, cbO_53, 185, 19547), I, J)) Q ↔ pm_wp pm_code pm_meta d 25 235 ([.ref 158, .int x1, .int x2], [.int 0, .int s2, .int s1, .ref 159], ((cbT_185 L, cbO_53, 185, 19547), I, J)) Q := (pm_bk_iff pc_ch_25 2 230 _).trans (Iff.rfl)
theorem cb_rd25_234 {d L : Nat} {I : Nat → Nat → Int32} {J : Nat → Nat → Int64} {Q : Int32 → Int64 → pm_H → Prop} {x1 x2 s1 s2 : Int32} : pm_wp pm_code pm_meta d 25 234 ([.ref 158, .int x1, .int x2], [.int s2, .int s1, .ref 159], ((cbT_185 L, cbO_53, 185, 19547), I, J)) Q ↔ pm_wp pm_code pm_meta d 25 235 ([.ref 158, .int x1, .int x2], [.int 5, .int s2, .int s1, .ref 159], ((cbT_185 L, cbO_53, 185, 19547), I, J)) Q := (pm_bk_iff pc_ch_25 1 234 _).trans (Iff.rfl)
theorem cb_rd25_250b {d L : Nat} {I : Nat → Nat → Int32} {J : Nat → Nat → Int64} {Q : Int32 → Int64 → pm_H → Prop} {x1 x2 : Int32} : pm_wp pm_code pm_meta d 25 250 ([.ref 158, .int x1, .int x2], [], ((cbT_185 L, cbO_53, 185, 19547), I, J)) Q ↔ Q 0 0 ((cbT_185 L, cbO_53, 185, 19547), I, J) := (pm_bk_iff pc_ch_25 1 250 _).trans (pm_tt)
theorem cb_rd25_211b {d L : Nat} {I : Nat → Nat → Int32} {J : Nat → Nat → Int64} {Q : Int32 → Int64 → pm_H → Prop} {x1 x2 : Int32} : pm_wp pm_code pm_meta d 25 211 ([.ref 158, .int x1, .int x2], [], ((cbT_185 L, cbO_53, 185, 19547), I, J)) Q ↔ pm_wp pm_code pm_meta d 25 213 ([.ref 158, .int x1, .int 0], [], ((cbT_185 L, cbO_53, 185, 19547), I, J)) Q := (pm_bk_iff pc_ch_25 2 211 _).trans (Iff.rfl)
theorem cb_rd25_235 {d L : Nat} {I : Nat → Nat → Int32} {J : Nat → Nat → Int64} {Q : Int32 → Int64 → pm_H → Prop} {x1 x2 s1 s2 s3 : Int32} : pm_wp pm_code pm_meta (d + 1) 25 235 ([.ref 158, .int x1, .int x2], [.int s3, .int s2, .int s1, .ref 159], ((cbT_185 L, cbO_53, 185, 19547), I, J)) Q ↔ pm_wc pm_code pm_meta d 84 [.ref 159, .int s1, .int s2, .int s3] ((cbT_185 L, cbO_53, 185, 19547), I, J) (fun v w H => pm_wp pm_code pm_meta (d + 1) 25 238 ([.ref 158, .int x1, .int x2], [], H) Q) := (pm_bk_iff pc_ch_25 1 235 _).trans (Iff.rfl)
theorem cb_rd25_238 {d L : Nat} {I : Nat → Nat → Int32} {J : Nat → Nat → Int64} {Q : Int32 → Int64 → pm_H → Prop} {x1 x2 : Int32} : pm_wp pm_code pm_meta d 25 238 ([.ref 158, .int x1, .int x2], [], ((cbT_185 L, cbO_53, 185, 19547), I, J)) Q ↔ pm_wp pm_code pm_meta d 25 213 ([.ref 158, .int x1, .int (x2 + 1)], [], ((cbT_185 L, cbO_53, 185, 19547), I, J)) Q := (pm_bk_iff pc_ch_25 2 238 _).trans (Iff.rfl)
theorem cb_set_159 {d L : Nat} {I : Nat → Nat → Int32} {J : Nat → Nat → Int64} {r k v : Int32} {Q : Int32 → Int64 → pm_H → Prop} (ht : pm_ti (I 159) 10 10) : pm_wc pm_code pm_meta d 84 [.ref 159, .int r, .int k, .int v] ((cbT_185 L, cbO_53, 185, 19547), I, J) Q ↔ Q 0 0 ((cbT_185 L, cbO_53, 185, 19547), (if (0 ≤ r ∧ r < I 159 3) ∧ 0 ≤ k ∧ k < 10 then pm_u I 160 (10 * r.toNatClampNeg + k.toNatClampNeg) v else I), J) := by
  have pin : pm_tin r k (I 159 3) (I 159 1) = true → (r * I 159 1 + k).toNatClampNeg = 10 * r.toNatClampNeg + k.toNatClampNeg ∧ pm_in (r * I 159 1 + k) 100 = true := fun h => by
    obtain ⟨h1, h2, h3, h4⟩ := ht
    rw [h1] at h ⊢
    simp only [pm_tin, Bool.and_eq_true, decide_eq_true_eq] at h
    obtain ⟨⟨⟨a1, a2⟩, a3⟩, a4⟩ := h
    exact pi_cell (lim := 10) (w := 10) a1 (by rw [pi_lt] at a2 ⊢; rw [pi_le] at h4; omega) a3 a4 rfl (by decide)
  have e : (if pm_tin r k (I 159 3) (I 159 1) then ((cbT_185 L, cbO_53, 185, 19547), pm_u I 160 (r * I 159 1 + k).toNatClampNeg v, J) else ((cbT_185 L, cbO_53, 185, 19547), I, J)) = ((cbT_185 L, cbO_53, 185, 19547), (if (0 ≤ r ∧ r < I 159 3) ∧ 0 ≤ k ∧ k < 10 then pm_u I 160 (10 * r.toNatClampNeg + k.toNatClampNeg) v else I), J) := by
    by_cases h : pm_tin r k (I 159 3) (I 159 1) = true
    · rw [if_pos h, (pin h).1]
      simp only [pm_tin, Bool.and_eq_true, decide_eq_true_eq, ht.1, and_assoc] at h
      rw [if_pos (by simpa only [and_assoc] using h)]
    · rw [if_neg h]
      simp only [pm_tin, Bool.and_eq_true, decide_eq_true_eq, ht.1, and_assoc] at h
      rw [if_neg (by simpa only [and_assoc] using h)]
  rw [← e]
  have htb : pm_tb ((cbT_185 L, cbO_53, 185, 19547), I, J) 159 160 100 (I 159 1) := ⟨rfl, by decide, rfl, rfl, by decide, rfl⟩
  have hin : pm_tin r k (I 159 3) (I 159 1) = true → pm_in (r * I 159 1 + k) 100 = true := fun h => (pin h).2
  refine pm_wc_iff (fun Q' h => ?_) Q
  refine pm_ts_set htb hin ?_
  exact h
theorem cb_rl_25 {d L : Nat} {I : Nat → Nat → Int32} {J : Nat → Nat → Int64} {Q : Int32 → Int64 → pm_H → Prop} (ht : pm_ti (I 159) 10 10) (h3 : I 159 3 = 10) : pm_wp pm_code pm_meta (d + 1) 25 205 ([.ref 158, .int 0, pm_unset], [], ((cbT_185 L, cbO_53, 185, 19547), I, J)) Q ↔ Q 0 0 ((cbT_185 L, cbO_53, 185, 19547), pc_rd I 160 100, J) := by
  have h10 : (10 : Int32) = Int32.ofNat 10 := rfl
  have et : ∀ p, pc_rd I 160 p 159 = I 159 := fun p => by funext j; exact if_neg (fun q => absurd q.1 (by decide))
  have inner : ∀ (k a b : Nat), a < 10 → b + k = 10 → (pm_wp pm_code pm_meta (d + 1) 25 213 ([.ref 158, .int (Int32.ofNat a), .int (Int32.ofNat b)], [], ((cbT_185 L, cbO_53, 185, 19547), pc_rd I 160 (10 * a + b), J)) Q ↔ pm_wp pm_code pm_meta (d + 1) 25 205 ([.ref 158, .int (Int32.ofNat (a + 1)), .int 10], [], ((cbT_185 L, cbO_53, 185, 19547), pc_rd I 160 (10 * (a + 1)), J)) Q) := by
    intro k a
    induction k with
    | zero =>
      intro b ha hb
      have eb : b = 10 := by omega
      subst eb
      rw [cb_rd25_213, if_pos (by decide), cb_rd25_244, on_s, show 10 * a + 10 = 10 * (a + 1) by omega]
      exact Iff.rfl
    | succ k ih =>
      intro b ha hb
      have ga := on_n (a := a) (by omega)
      have gb := on_n (a := b) (by omega)
      have ih := fun b h1 h2 => ih b h1 h2
      by_cases e : a = b
      · rw [cb_rd25_213, if_neg (by rw [h10, on_le (by omega) (by omega)]; omega), cb_rd25_219, if_pos (by rw [e]), cb_rd25_230, cb_rd25_235, cb_set_159 (by rw [et]; exact ht), et, h3, if_pos ⟨⟨ga.1, by rw [h10, on_lt (by omega) (by omega)]; omega⟩, gb.1, by rw [h10, on_lt (by omega) (by omega)]; omega⟩, cb_rd25_238, on_s, ga.2.1, gb.2.1, pc_rds0 (by omega)]
        exact ih (b + 1) ha (by omega)
      · rw [cb_rd25_213, if_neg (by rw [h10, on_le (by omega) (by omega)]; omega), cb_rd25_219, if_neg (by rw [on_eq (by omega) (by omega)]; exact e), cb_rd25_234, cb_rd25_235, cb_set_159 (by rw [et]; exact ht), et, h3, if_pos ⟨⟨ga.1, by rw [h10, on_lt (by omega) (by omega)]; omega⟩, gb.1, by rw [h10, on_lt (by omega) (by omega)]; omega⟩, cb_rd25_238, on_s, ga.2.1, gb.2.1, pc_rds5 (by omega)]
        exact ih (b + 1) ha (by omega)
  have outer : ∀ (k a : Nat), a + k = 10 → (pm_wp pm_code pm_meta (d + 1) 25 205 ([.ref 158, .int (Int32.ofNat a), .int 10], [], ((cbT_185 L, cbO_53, 185, 19547), pc_rd I 160 (10 * a), J)) Q ↔ Q 0 0 ((cbT_185 L, cbO_53, 185, 19547), pc_rd I 160 100, J)) := by
    intro k
    induction k with
    | zero =>
      intro a ha
      have ea : a = 10 := by omega
      subst ea
      rw [cb_rd25_205b, if_pos (by decide), cb_rd25_250b]
    | succ k ih =>
      intro a ha
      rw [cb_rd25_205b, if_neg (by rw [h10, on_le (by omega) (by omega)]; omega), cb_rd25_211b]
      exact (inner 10 a 0 (by omega) (by omega)).trans (ih (a + 1) (by omega))
  rw [cb_rd25_205, if_neg (by decide), cb_rd25_211]
  have z := (inner 10 0 0 (by decide) (by omega)).trans (outer 9 1 (by omega))
  rw [show 10 * 0 + 0 = 0 from rfl, pc_rd0] at z
  exact z
theorem cb_c18 {d L : Nat} {I : Nat → Nat → Int32} {J : Nat → Nat → Int64} {Q : Int32 → Int64 → pm_H → Prop} : pm_wp pm_code pm_meta (d + 1) 25 205 ([.ref 158, .int 0, pm_unset], [], ((cbT_185 L, cbO_53, 185, 19547), cbI_55 I, cbJ_27 J)) Q ↔ Q 0 0 ((cbT_185 L, cbO_53, 185, 19547), cbI_56 I, cbJ_27 J) := cb_rl_25 ⟨rfl, rfl, (show (0 : Int32) ≤ 10 by decide), (show (10 : Int32) ≤ 10 by decide)⟩ rfl
theorem cb_c2 {d L : Nat} {I : Nat → Nat → Int32} {J : Nat → Nat → Int64} {Q : Int32 → Int64 → pm_H → Prop} : pm_wc pm_code pm_meta (d + 2) 25 [.ref 158] ((cbT_159 L, cbO_1, 159, 15489), cbI_1 I, cbJ_1 J) Q ↔ Q 0 0 ((cbT_185 L, cbO_53, 185, 19547), cbI_56 I, cbJ_27 J) := by
  rw [cb_c2_s0, cb_c3, cb_c2_s2, cb_c4, cb_c2_s4, cb_c5, cb_c2_s6, cb_c6, cb_c2_s8, cb_c7, cb_c2_s10, cb_c8, cb_c2_s12, cb_c9, cb_c2_s14, cb_c10, cb_c2_s16, cb_c11, cb_c2_s18, cb_c12, cb_c2_s20, cb_c13, cb_c2_s22, cb_c14, cb_c2_s24, cb_c15, cb_c2_s26, cb_c16, cb_c2_s28, cb_c17, cb_c2_s30, cb_c18]
theorem cb_c1_s3 {d L : Nat} {I : Nat → Nat → Int32} {J : Nat → Nat → Int64} {Q : Int32 → Int64 → pm_H → Prop} : pm_wp pm_code pm_meta d 173 15 ([.ref 8], [.ref 158, .ref 8], ((cbT_185 L, cbO_53, 185, 19547), cbI_56 I, cbJ_27 J)) Q ↔ pm_wp pm_code pm_meta d 173 18 ([.ref 8], [], ((cbT_185 L, cbO_54, 185, 19547), cbI_56 I, cbJ_27 J)) Q := (pm_bk_iff pc_ch_173 1 15 _).trans (Iff.rfl)
theorem cb_c1 {d L : Nat} {I : Nat → Nat → Int32} {J : Nat → Nat → Int64} {Q : Int32 → Int64 → pm_H → Prop} : pm_wc pm_code pm_meta (d + 3) 173 [.ref 8] ((cbT_158 L, cbO_0, 158, 15475), cbI_0 I, cbJ_0 J) Q ↔ pm_wp pm_code pm_meta (d + 3) 173 18 ([.ref 8], [], ((cbT_185 L, cbO_54, 185, 19547), cbI_56 I, cbJ_27 J)) Q := by
  rw [cb_c1_s0, cb_c1_s1, cb_c2, cb_c1_s3]
def pc_F (L i : Nat) : Nat × Nat := bif Nat.blt i 158 then pm_Tt L i else pm_Tu i
theorem cbT_e_158 (L : Nat) : cbT_158 L = fun i => bif Nat.blt i 158 then pc_F L i else (9, 0) := by
  funext i
  show (bif Nat.blt i 158 then pm_Tt L i else bif false && Nat.blt i 185 then pm_Tu i else (9, 0)) = bif Nat.blt i 158 then (bif Nat.blt i 158 then pm_Tt L i else pm_Tu i) else (9, 0)
  by_cases h : i < 158
  · rw [blt_t h]; rfl
  · rw [blt_f (by omega)]; rfl
theorem cbT_e_159 (L : Nat) : cbT_159 L = fun i => bif Nat.blt i 159 then pc_F L i else (9, 0) := pT_step (cbT_e_158 L) rfl
theorem cbT_e_160 (L : Nat) : cbT_160 L = fun i => bif Nat.blt i 160 then pc_F L i else (9, 0) := pT_step (cbT_e_159 L) rfl
theorem cbT_e_161 (L : Nat) : cbT_161 L = fun i => bif Nat.blt i 161 then pc_F L i else (9, 0) := pT_step (cbT_e_160 L) rfl
theorem cbT_e_162 (L : Nat) : cbT_162 L = fun i => bif Nat.blt i 162 then pc_F L i else (9, 0) := pT_step (cbT_e_161 L) rfl
theorem cbT_e_163 (L : Nat) : cbT_163 L = fun i => bif Nat.blt i 163 then pc_F L i else (9, 0) := pT_step (cbT_e_162 L) rfl
theorem cbT_e_164 (L : Nat) : cbT_164 L = fun i => bif Nat.blt i 164 then pc_F L i else (9, 0) := pT_step (cbT_e_163 L) rfl
theorem cbT_e_165 (L : Nat) : cbT_165 L = fun i => bif Nat.blt i 165 then pc_F L i else (9, 0) := pT_step (cbT_e_164 L) rfl
theorem cbT_e_166 (L : Nat) : cbT_166 L = fun i => bif Nat.blt i 166 then pc_F L i else (9, 0) := pT_step (cbT_e_165 L) rfl
theorem cbT_e_167 (L : Nat) : cbT_167 L = fun i => bif Nat.blt i 167 then pc_F L i else (9, 0) := pT_step (cbT_e_166 L) rfl
theorem cbT_e_168 (L : Nat) : cbT_168 L = fun i => bif Nat.blt i 168 then pc_F L i else (9, 0) := pT_step (cbT_e_167 L) rfl
theorem cbT_e_169 (L : Nat) : cbT_169 L = fun i => bif Nat.blt i 169 then pc_F L i else (9, 0) := pT_step (cbT_e_168 L) rfl
theorem cbT_e_170 (L : Nat) : cbT_170 L = fun i => bif Nat.blt i 170 then pc_F L i else (9, 0) := pT_step (cbT_e_169 L) rfl
theorem cbT_e_171 (L : Nat) : cbT_171 L = fun i => bif Nat.blt i 171 then pc_F L i else (9, 0) := pT_step (cbT_e_170 L) rfl
theorem cbT_e_172 (L : Nat) : cbT_172 L = fun i => bif Nat.blt i 172 then pc_F L i else (9, 0) := pT_step (cbT_e_171 L) rfl
theorem cbT_e_173 (L : Nat) : cbT_173 L = fun i => bif Nat.blt i 173 then pc_F L i else (9, 0) := pT_step (cbT_e_172 L) rfl
theorem cbT_e_174 (L : Nat) : cbT_174 L = fun i => bif Nat.blt i 174 then pc_F L i else (9, 0) := pT_step (cbT_e_173 L) rfl
theorem cbT_e_175 (L : Nat) : cbT_175 L = fun i => bif Nat.blt i 175 then pc_F L i else (9, 0) := pT_step (cbT_e_174 L) rfl
theorem cbT_e_176 (L : Nat) : cbT_176 L = fun i => bif Nat.blt i 176 then pc_F L i else (9, 0) := pT_step (cbT_e_175 L) rfl
theorem cbT_e_177 (L : Nat) : cbT_177 L = fun i => bif Nat.blt i 177 then pc_F L i else (9, 0) := pT_step (cbT_e_176 L) rfl
theorem cbT_e_178 (L : Nat) : cbT_178 L = fun i => bif Nat.blt i 178 then pc_F L i else (9, 0) := pT_step (cbT_e_177 L) rfl
theorem cbT_e_179 (L : Nat) : cbT_179 L = fun i => bif Nat.blt i 179 then pc_F L i else (9, 0) := pT_step (cbT_e_178 L) rfl
theorem cbT_e_180 (L : Nat) : cbT_180 L = fun i => bif Nat.blt i 180 then pc_F L i else (9, 0) := pT_step (cbT_e_179 L) rfl
theorem cbT_e_181 (L : Nat) : cbT_181 L = fun i => bif Nat.blt i 181 then pc_F L i else (9, 0) := pT_step (cbT_e_180 L) rfl
theorem cbT_e_182 (L : Nat) : cbT_182 L = fun i => bif Nat.blt i 182 then pc_F L i else (9, 0) := pT_step (cbT_e_181 L) rfl
theorem cbT_e_183 (L : Nat) : cbT_183 L = fun i => bif Nat.blt i 183 then pc_F L i else (9, 0) := pT_step (cbT_e_182 L) rfl
theorem cbT_e_184 (L : Nat) : cbT_184 L = fun i => bif Nat.blt i 184 then pc_F L i else (9, 0) := pT_step (cbT_e_183 L) rfl
theorem cbT_e_185 (L : Nat) : cbT_185 L = fun i => bif Nat.blt i 185 then pc_F L i else (9, 0) := pT_step (cbT_e_184 L) rfl
theorem cbT_fin (L : Nat) : cbT_185 L = pm_Tb L true := by
  rw [cbT_e_185]
  funext i
  show (bif Nat.blt i 185 then (bif Nat.blt i 158 then pm_Tt L i else pm_Tu i) else (9, 0)) = (bif Nat.blt i 158 then pm_Tt L i else bif true && Nat.blt i 185 then pm_Tu i else (9, 0))
  by_cases h : i < 158
  · rw [blt_t h, blt_t (show i < 185 by omega)]; rfl
  · rw [blt_f (show 158 ≤ i by omega)]
    by_cases h2 : i < 185
    · rw [blt_t h2]; rfl
    · rw [blt_f (show 185 ≤ i by omega)]; rfl
def cbW_0 : List (Nat × Nat × Nat) := []
theorem cbO_e_0 : cbO_0 = pc_Ol (pm_Ob false) cbW_0 := rfl
theorem cbO_e_1 : cbO_1 = pc_Ol (pm_Ob false) cbW_0 := Ol_z cbO_e_0 (by decide +kernel) (fun _ => rfl)
theorem cbO_e_2 : cbO_2 = pc_Ol (pm_Ob false) cbW_0 := Ol_z cbO_e_1 (by decide +kernel) (fun _ => rfl)
theorem cbO_e_3 : cbO_3 = pc_Ol (pm_Ob false) cbW_0 := Ol_z cbO_e_2 (by decide +kernel) (fun _ => rfl)
def cbW_1 : List (Nat × Nat × Nat) := (159, 0, 160) :: cbW_0
theorem cbO_e_4 : cbO_4 = pc_Ol (pm_Ob false) cbW_1 := Ol_u cbO_e_3
def cbW_2 : List (Nat × Nat × Nat) := (158, 1, 159) :: cbW_1
theorem cbO_e_5 : cbO_5 = pc_Ol (pm_Ob false) cbW_2 := Ol_u cbO_e_4
theorem cbO_e_6 : cbO_6 = pc_Ol (pm_Ob false) cbW_2 := Ol_z cbO_e_5 (by decide +kernel) (fun _ => rfl)
theorem cbO_e_7 : cbO_7 = pc_Ol (pm_Ob false) cbW_2 := Ol_z cbO_e_6 (by decide +kernel) (fun _ => rfl)
def cbW_3 : List (Nat × Nat × Nat) := (161, 0, 162) :: cbW_2
theorem cbO_e_8 : cbO_8 = pc_Ol (pm_Ob false) cbW_3 := Ol_u cbO_e_7
def cbW_4 : List (Nat × Nat × Nat) := (158, 2, 161) :: cbW_3
theorem cbO_e_9 : cbO_9 = pc_Ol (pm_Ob false) cbW_4 := Ol_u cbO_e_8
theorem cbO_e_10 : cbO_10 = pc_Ol (pm_Ob false) cbW_4 := Ol_z cbO_e_9 (by decide +kernel) (fun _ => rfl)
theorem cbO_e_11 : cbO_11 = pc_Ol (pm_Ob false) cbW_4 := Ol_z cbO_e_10 (by decide +kernel) (fun _ => rfl)
def cbW_5 : List (Nat × Nat × Nat) := (163, 0, 164) :: cbW_4
theorem cbO_e_12 : cbO_12 = pc_Ol (pm_Ob false) cbW_5 := Ol_u cbO_e_11
def cbW_6 : List (Nat × Nat × Nat) := (158, 3, 163) :: cbW_5
theorem cbO_e_13 : cbO_13 = pc_Ol (pm_Ob false) cbW_6 := Ol_u cbO_e_12
theorem cbO_e_14 : cbO_14 = pc_Ol (pm_Ob false) cbW_6 := Ol_z cbO_e_13 (by decide +kernel) (fun _ => rfl)
theorem cbO_e_15 : cbO_15 = pc_Ol (pm_Ob false) cbW_6 := Ol_z cbO_e_14 (by decide +kernel) (fun _ => rfl)
def cbW_7 : List (Nat × Nat × Nat) := (165, 0, 166) :: cbW_6
theorem cbO_e_16 : cbO_16 = pc_Ol (pm_Ob false) cbW_7 := Ol_u cbO_e_15
def cbW_8 : List (Nat × Nat × Nat) := (158, 4, 165) :: cbW_7
theorem cbO_e_17 : cbO_17 = pc_Ol (pm_Ob false) cbW_8 := Ol_u cbO_e_16
theorem cbO_e_18 : cbO_18 = pc_Ol (pm_Ob false) cbW_8 := Ol_z cbO_e_17 (by decide +kernel) (fun _ => rfl)
theorem cbO_e_19 : cbO_19 = pc_Ol (pm_Ob false) cbW_8 := Ol_z cbO_e_18 (by decide +kernel) (fun _ => rfl)
def cbW_9 : List (Nat × Nat × Nat) := (167, 0, 168) :: cbW_8
theorem cbO_e_20 : cbO_20 = pc_Ol (pm_Ob false) cbW_9 := Ol_u cbO_e_19
def cbW_10 : List (Nat × Nat × Nat) := (158, 5, 167) :: cbW_9
theorem cbO_e_21 : cbO_21 = pc_Ol (pm_Ob false) cbW_10 := Ol_u cbO_e_20
theorem cbO_e_22 : cbO_22 = pc_Ol (pm_Ob false) cbW_10 := Ol_z cbO_e_21 (by decide +kernel) (fun _ => rfl)
theorem cbO_e_23 : cbO_23 = pc_Ol (pm_Ob false) cbW_10 := Ol_z cbO_e_22 (by decide +kernel) (fun _ => rfl)
def cbW_11 : List (Nat × Nat × Nat) := (169, 0, 170) :: cbW_10
theorem cbO_e_24 : cbO_24 = pc_Ol (pm_Ob false) cbW_11 := Ol_u cbO_e_23
def cbW_12 : List (Nat × Nat × Nat) := (158, 6, 169) :: cbW_11
theorem cbO_e_25 : cbO_25 = pc_Ol (pm_Ob false) cbW_12 := Ol_u cbO_e_24
theorem cbO_e_26 : cbO_26 = pc_Ol (pm_Ob false) cbW_12 := Ol_z cbO_e_25 (by decide +kernel) (fun _ => rfl)
theorem cbO_e_27 : cbO_27 = pc_Ol (pm_Ob false) cbW_12 := Ol_z cbO_e_26 (by decide +kernel) (fun _ => rfl)
def cbW_13 : List (Nat × Nat × Nat) := (171, 0, 172) :: cbW_12
theorem cbO_e_28 : cbO_28 = pc_Ol (pm_Ob false) cbW_13 := Ol_u cbO_e_27
def cbW_14 : List (Nat × Nat × Nat) := (158, 7, 171) :: cbW_13
theorem cbO_e_29 : cbO_29 = pc_Ol (pm_Ob false) cbW_14 := Ol_u cbO_e_28
theorem cbO_e_30 : cbO_30 = pc_Ol (pm_Ob false) cbW_14 := Ol_z cbO_e_29 (by decide +kernel) (fun _ => rfl)
theorem cbO_e_31 : cbO_31 = pc_Ol (pm_Ob false) cbW_14 := Ol_z cbO_e_30 (by decide +kernel) (fun _ => rfl)
def cbW_15 : List (Nat × Nat × Nat) := (173, 0, 174) :: cbW_14
theorem cbO_e_32 : cbO_32 = pc_Ol (pm_Ob false) cbW_15 := Ol_u cbO_e_31
def cbW_16 : List (Nat × Nat × Nat) := (158, 8, 173) :: cbW_15
theorem cbO_e_33 : cbO_33 = pc_Ol (pm_Ob false) cbW_16 := Ol_u cbO_e_32
theorem cbO_e_34 : cbO_34 = pc_Ol (pm_Ob false) cbW_16 := Ol_z cbO_e_33 (by decide +kernel) (fun _ => rfl)
theorem cbO_e_35 : cbO_35 = pc_Ol (pm_Ob false) cbW_16 := Ol_z cbO_e_34 (by decide +kernel) (fun _ => rfl)
def cbW_17 : List (Nat × Nat × Nat) := (175, 0, 176) :: cbW_16
theorem cbO_e_36 : cbO_36 = pc_Ol (pm_Ob false) cbW_17 := Ol_u cbO_e_35
def cbW_18 : List (Nat × Nat × Nat) := (158, 9, 175) :: cbW_17
theorem cbO_e_37 : cbO_37 = pc_Ol (pm_Ob false) cbW_18 := Ol_u cbO_e_36
theorem cbO_e_38 : cbO_38 = pc_Ol (pm_Ob false) cbW_18 := Ol_z cbO_e_37 (by decide +kernel) (fun _ => rfl)
theorem cbO_e_39 : cbO_39 = pc_Ol (pm_Ob false) cbW_18 := Ol_z cbO_e_38 (by decide +kernel) (fun _ => rfl)
def cbW_19 : List (Nat × Nat × Nat) := (177, 0, 178) :: cbW_18
theorem cbO_e_40 : cbO_40 = pc_Ol (pm_Ob false) cbW_19 := Ol_u cbO_e_39
def cbW_20 : List (Nat × Nat × Nat) := (158, 10, 177) :: cbW_19
theorem cbO_e_41 : cbO_41 = pc_Ol (pm_Ob false) cbW_20 := Ol_u cbO_e_40
theorem cbO_e_42 : cbO_42 = pc_Ol (pm_Ob false) cbW_20 := Ol_z cbO_e_41 (by decide +kernel) (fun _ => rfl)
theorem cbO_e_43 : cbO_43 = pc_Ol (pm_Ob false) cbW_20 := Ol_z cbO_e_42 (by decide +kernel) (fun _ => rfl)
def cbW_21 : List (Nat × Nat × Nat) := (179, 0, 180) :: cbW_20
theorem cbO_e_44 : cbO_44 = pc_Ol (pm_Ob false) cbW_21 := Ol_u cbO_e_43
def cbW_22 : List (Nat × Nat × Nat) := (158, 11, 179) :: cbW_21
theorem cbO_e_45 : cbO_45 = pc_Ol (pm_Ob false) cbW_22 := Ol_u cbO_e_44
theorem cbO_e_46 : cbO_46 = pc_Ol (pm_Ob false) cbW_22 := Ol_z cbO_e_45 (by decide +kernel) (fun _ => rfl)
theorem cbO_e_47 : cbO_47 = pc_Ol (pm_Ob false) cbW_22 := Ol_z cbO_e_46 (by decide +kernel) (fun _ => rfl)
def cbW_23 : List (Nat × Nat × Nat) := (181, 0, 182) :: cbW_22
theorem cbO_e_48 : cbO_48 = pc_Ol (pm_Ob false) cbW_23 := Ol_u cbO_e_47
def cbW_24 : List (Nat × Nat × Nat) := (158, 12, 181) :: cbW_23
theorem cbO_e_49 : cbO_49 = pc_Ol (pm_Ob false) cbW_24 := Ol_u cbO_e_48
theorem cbO_e_50 : cbO_50 = pc_Ol (pm_Ob false) cbW_24 := Ol_z cbO_e_49 (by decide +kernel) (fun _ => rfl)
theorem cbO_e_51 : cbO_51 = pc_Ol (pm_Ob false) cbW_24 := Ol_z cbO_e_50 (by decide +kernel) (fun _ => rfl)
def cbW_25 : List (Nat × Nat × Nat) := (183, 0, 184) :: cbW_24
theorem cbO_e_52 : cbO_52 = pc_Ol (pm_Ob false) cbW_25 := Ol_u cbO_e_51
def cbW_26 : List (Nat × Nat × Nat) := (158, 13, 183) :: cbW_25
theorem cbO_e_53 : cbO_53 = pc_Ol (pm_Ob false) cbW_26 := Ol_u cbO_e_52
def cbW_27 : List (Nat × Nat × Nat) := (8, 9, 158) :: cbW_26
theorem cbO_e_54 : cbO_54 = pc_Ol (pm_Ob false) cbW_27 := Ol_u cbO_e_53
theorem cbW_top : cbW_27 = (8, 9, 158) :: cbW_26 := rfl
theorem cbW_bd : (cbW_26.all fun e => Nat.blt e.2.1 16 && Nat.blt e.1 185 && Nat.ble 158 e.1) = true := by decide +kernel
theorem cbW_in : ((List.range 27).all fun i => (List.range 16).all fun j => Nat.beq (pc_Ol (pm_Ob false) cbW_26 (158 + i) j) (pm_Ob true (158 + i) j)) = true := by decide +kernel
theorem Ol_far2 {B : Nat → Nat → Nat} {i j : Nat} : ∀ (r : List (Nat × Nat × Nat)), (r.all fun e => Nat.blt e.2.1 16 && Nat.blt e.1 185 && Nat.ble 158 e.1) = true → (16 ≤ j ∨ 185 ≤ i ∨ i < 158) → pc_Ol B r i j = B i j
  | [], _, _ => rfl
  | e :: r, h, c => by
    rw [List.all_cons, Bool.and_eq_true, Bool.and_eq_true, Bool.and_eq_true, Nat.blt_eq, Nat.blt_eq, Nat.ble_eq] at h
    show (if i = e.1 ∧ j = e.2.1 then e.2.2 else pc_Ol B r i j) = _
    rw [if_neg (fun q => by rw [q.1, q.2] at c; omega)]
    exact Ol_far2 r h.2 c
theorem Ob_tf_8 {k : Nat} (h : ¬ k = 9) : pm_Ob true 8 k = pm_Ob false 8 k := by
  match k, h with
  | 0, _ => rfl
  | 1, _ => rfl
  | 2, _ => rfl
  | 3, _ => rfl
  | 4, _ => rfl
  | 5, _ => rfl
  | 6, _ => rfl
  | 7, _ => rfl
  | 8, _ => rfl
  | 9, h => exact absurd rfl h
  | n + 10, _ => rfl
theorem Ob_tf {i k : Nat} (hi : i < 158) (h : ¬ i = 8) : pm_Ob true i k = pm_Ob false i k := by
  match i, hi, h with
  | 0, _, _ => rfl
  | 1, _, _ => rfl
  | 2, _, _ => rfl
  | 3, _, _ => rfl
  | 4, _, _ => rfl
  | 5, _, _ => rfl
  | 6, _, _ => rfl
  | 7, _, _ => rfl
  | 8, _, h => exact absurd rfl h
  | 9, _, _ => rfl
  | 10, _, _ => rfl
  | 11, _, _ => rfl
  | 12, _, _ => rfl
  | 13, _, _ => rfl
  | 14, _, _ => rfl
  | 15, _, _ => rfl
  | 16, _, _ => rfl
  | 17, _, _ => rfl
  | 18, _, _ => rfl
  | 19, _, _ => rfl
  | 20, _, _ => rfl
  | 21, _, _ => rfl
  | 22, _, _ => rfl
  | 23, _, _ => rfl
  | 24, _, _ => rfl
  | 25, _, _ => rfl
  | 26, _, _ => rfl
  | 27, _, _ => rfl
  | 28, _, _ => rfl
  | 29, _, _ => rfl
  | 30, _, _ => rfl
  | 31, _, _ => rfl
  | 32, _, _ => rfl
  | 33, _, _ => rfl
  | 34, _, _ => rfl
  | 35, _, _ => rfl
  | 36, _, _ => rfl
  | 37, _, _ => rfl
  | 38, _, _ => rfl
  | 39, _, _ => rfl
  | 40, _, _ => rfl
  | 41, _, _ => rfl
  | 42, _, _ => rfl
  | 43, _, _ => rfl
  | 44, _, _ => rfl
  | 45, _, _ => rfl
  | 46, _, _ => rfl
  | 47, _, _ => rfl
  | 48, _, _ => rfl
  | 49, _, _ => rfl
  | 50, _, _ => rfl
  | 51, _, _ => rfl
  | 52, _, _ => rfl
  | 53, _, _ => rfl
  | 54, _, _ => rfl
  | 55, _, _ => rfl
  | 56, _, _ => rfl
  | 57, _, _ => rfl
  | 58, _, _ => rfl
  | 59, _, _ => rfl
  | 60, _, _ => rfl
  | 61, _, _ => rfl
  | 62, _, _ => rfl
  | 63, _, _ => rfl
  | 64, _, _ => rfl
  | 65, _, _ => rfl
  | 66, _, _ => rfl
  | 67, _, _ => rfl
  | 68, _, _ => rfl
  | 69, _, _ => rfl
  | 70, _, _ => rfl
  | 71, _, _ => rfl
  | 72, _, _ => rfl
  | 73, _, _ => rfl
  | 74, _, _ => rfl
  | 75, _, _ => rfl
  | 76, _, _ => rfl
  | 77, _, _ => rfl
  | 78, _, _ => rfl
  | 79, _, _ => rfl
  | 80, _, _ => rfl
  | 81, _, _ => rfl
  | 82, _, _ => rfl
  | 83, _, _ => rfl
  | 84, _, _ => rfl
  | 85, _, _ => rfl
  | 86, _, _ => rfl
  | 87, _, _ => rfl
  | 88, _, _ => rfl
  | 89, _, _ => rfl
  | 90, _, _ => rfl
  | 91, _, _ => rfl
  | 92, _, _ => rfl
  | 93, _, _ => rfl
  | 94, _, _ => rfl
  | 95, _, _ => rfl
  | 96, _, _ => rfl
  | 97, _, _ => rfl
  | 98, _, _ => rfl
  | 99, _, _ => rfl
  | 100, _, _ => rfl
  | 101, _, _ => rfl
  | 102, _, _ => rfl
  | 103, _, _ => rfl
  | 104, _, _ => rfl
  | 105, _, _ => rfl
  | 106, _, _ => rfl
  | 107, _, _ => rfl
  | 108, _, _ => rfl
  | 109, _, _ => rfl
  | 110, _, _ => rfl
  | 111, _, _ => rfl
  | 112, _, _ => rfl
  | 113, _, _ => rfl
  | 114, _, _ => rfl
  | 115, _, _ => rfl
  | 116, _, _ => rfl
  | 117, _, _ => rfl
  | 118, _, _ => rfl
  | 119, _, _ => rfl
  | 120, _, _ => rfl
  | 121, _, _ => rfl
  | 122, _, _ => rfl
  | 123, _, _ => rfl
  | 124, _, _ => rfl
  | 125, _, _ => rfl
  | 126, _, _ => rfl
  | 127, _, _ => rfl
  | 128, _, _ => rfl
  | 129, _, _ => rfl
  | 130, _, _ => rfl
  | 131, _, _ => rfl
  | 132, _, _ => rfl
  | 133, _, _ => rfl
  | 134, _, _ => rfl
  | 135, _, _ => rfl
  | 136, _, _ => rfl
  | 137, _, _ => rfl
  | 138, _, _ => rfl
  | 139, _, _ => rfl
  | 140, _, _ => rfl
  | 141, _, _ => rfl
  | 142, _, _ => rfl
  | 143, _, _ => rfl
  | 144, _, _ => rfl
  | 145, _, _ => rfl
  | 146, _, _ => rfl
  | 147, _, _ => rfl
  | 148, _, _ => rfl
  | 149, _, _ => rfl
  | 150, _, _ => rfl
  | 151, _, _ => rfl
  | 152, _, _ => rfl
  | 153, _, _ => rfl
  | 154, _, _ => rfl
  | 155, _, _ => rfl
  | 156, _, _ => rfl
  | 157, _, _ => rfl
  | n + 158, hi, _ => exact absurd hi (by omega)
theorem Ob_u {i k : Nat} (h : 16 ≤ k) (hi : i < 27) : pm_Ob true (158 + i) k = 0 := by
  match i, hi with
  | 0, _ =>
    show (bif Nat.blt k 14 then _ else 0) = 0
    rw [blt_f (by omega)]; rfl
  | 1, _ =>
    show (bif Nat.blt k 1 then _ else 0) = 0
    rw [blt_f (by omega)]; rfl
  | 2, _ => rfl
  | 3, _ =>
    show (bif Nat.blt k 1 then _ else 0) = 0
    rw [blt_f (by omega)]; rfl
  | 4, _ => rfl
  | 5, _ =>
    show (bif Nat.blt k 1 then _ else 0) = 0
    rw [blt_f (by omega)]; rfl
  | 6, _ => rfl
  | 7, _ =>
    show (bif Nat.blt k 1 then _ else 0) = 0
    rw [blt_f (by omega)]; rfl
  | 8, _ => rfl
  | 9, _ =>
    show (bif Nat.blt k 1 then _ else 0) = 0
    rw [blt_f (by omega)]; rfl
  | 10, _ => rfl
  | 11, _ =>
    show (bif Nat.blt k 1 then _ else 0) = 0
    rw [blt_f (by omega)]; rfl
  | 12, _ => rfl
  | 13, _ =>
    show (bif Nat.blt k 1 then _ else 0) = 0
    rw [blt_f (by omega)]; rfl
  | 14, _ => rfl
  | 15, _ =>
    show (bif Nat.blt k 1 then _ else 0) = 0
    rw [blt_f (by omega)]; rfl
  | 16, _ => rfl
  | 17, _ =>
    show (bif Nat.blt k 1 then _ else 0) = 0
    rw [blt_f (by omega)]; rfl
  | 18, _ => rfl
  | 19, _ =>
    show (bif Nat.blt k 1 then _ else 0) = 0
    rw [blt_f (by omega)]; rfl
  | 20, _ => rfl
  | 21, _ =>
    show (bif Nat.blt k 1 then _ else 0) = 0
    rw [blt_f (by omega)]; rfl
  | 22, _ => rfl
  | 23, _ =>
    show (bif Nat.blt k 1 then _ else 0) = 0
    rw [blt_f (by omega)]; rfl
  | 24, _ => rfl
  | 25, _ =>
    show (bif Nat.blt k 1 then _ else 0) = 0
    rw [blt_f (by omega)]; rfl
  | 26, _ => rfl
  | n + 27, hi => exact absurd hi (by omega)
theorem cbO_fin : cbO_54 = pm_Ob true := by
  rw [cbO_e_54, cbW_top]
  funext i k
  show (if i = 8 ∧ k = 9 then 158 else pc_Ol (pm_Ob false) cbW_26 i k) = pm_Ob true i k
  by_cases c : i = 8 ∧ k = 9
  · rw [if_pos c, c.1, c.2]; rfl
  · rw [if_neg c]
    by_cases h1 : i < 158
    · rw [Ol_far2 cbW_26 cbW_bd (Or.inr (Or.inr h1))]
      by_cases h8 : i = 8
      · subst h8; exact (Ob_tf_8 (fun q => c ⟨rfl, q⟩)).symm
      · exact (Ob_tf h1 h8).symm
    · obtain ⟨q, rfl⟩ : ∃ q, i = 158 + q := ⟨i - 158, by omega⟩
      have z0 : pm_Ob false (158 + q) k = 0 := by
        unfold pm_Ob
        rw [blt_f (by omega)]; rfl
      by_cases h2 : q < 27
      · by_cases hk : k < 16
        · have z := List.all_eq_true.mp cbW_in q (List.mem_range.mpr h2)
          have z := List.all_eq_true.mp z k (List.mem_range.mpr hk)
          exact Nat.eq_of_beq_eq_true z
        · rw [Ol_far2 cbW_26 cbW_bd (Or.inl (by omega)), z0, Ob_u (by omega) h2]
      · rw [Ol_far2 cbW_26 cbW_bd (Or.inr (Or.inl (by omega))), z0]
        unfold pm_Ob
        rw [blt_f (by omega), blt_f (by omega)]; rfl
theorem px_keep0 {d L : Nat} {I : Nat → Nat → Int32} {J : Nat → Nat → Int64} {Q : Int32 → Int64 → pm_H → Prop} : pm_wc pm_code pm_meta (d + 3) 173 [.ref 8] (pm_Gb L false, I, J) Q ↔ pm_wp pm_code pm_meta (d + 3) 173 18 ([.ref 8], [], (pm_Gb L true, cbI_56 I, cbJ_27 J)) Q := by
  have e : ((cbT_185 L, cbO_54, 185, 19547) : pm_G) = pm_Gb L true := by rw [cbT_fin, cbO_fin]; rfl
  rw [← e]
  exact cb_c1
set_option maxRecDepth 20000 in
theorem kp_ti_0 (I : Nat → Nat → Int32) : pm_ti (cbI_56 I 159) (Int32.ofNat (pc_W 0)) (Int32.ofNat (pc_L 0)) := ⟨rfl, rfl, (show (0 : Int32) ≤ 10 by decide), (show (10 : Int32) ≤ 10 by decide)⟩
set_option maxRecDepth 20000 in
theorem kp_ti_1 (I : Nat → Nat → Int32) : pm_ti (cbI_56 I 161) (Int32.ofNat (pc_W 1)) (Int32.ofNat (pc_L 1)) := ⟨rfl, rfl, (show (0 : Int32) ≤ 0 by decide), (show (0 : Int32) ≤ 16 by decide)⟩
set_option maxRecDepth 20000 in
theorem kp_ti_2 (I : Nat → Nat → Int32) : pm_ti (cbI_56 I 163) (Int32.ofNat (pc_W 2)) (Int32.ofNat (pc_L 2)) := ⟨rfl, rfl, (show (0 : Int32) ≤ 0 by decide), (show (0 : Int32) ≤ 8 by decide)⟩
set_option maxRecDepth 20000 in
theorem kp_ti_3 (I : Nat → Nat → Int32) : pm_ti (cbI_56 I 165) (Int32.ofNat (pc_W 3)) (Int32.ofNat (pc_L 3)) := ⟨rfl, rfl, (show (0 : Int32) ≤ 0 by decide), (show (0 : Int32) ≤ 24 by decide)⟩
set_option maxRecDepth 20000 in
theorem kp_ti_4 (I : Nat → Nat → Int32) : pm_ti (cbI_56 I 167) (Int32.ofNat (pc_W 4)) (Int32.ofNat (pc_L 4)) := ⟨rfl, rfl, (show (0 : Int32) ≤ 0 by decide), (show (0 : Int32) ≤ 24 by decide)⟩
set_option maxRecDepth 20000 in
theorem kp_ti_5 (I : Nat → Nat → Int32) : pm_ti (cbI_56 I 169) (Int32.ofNat (pc_W 5)) (Int32.ofNat (pc_L 5)) := ⟨rfl, rfl, (show (0 : Int32) ≤ 0 by decide), (show (0 : Int32) ≤ 12 by decide)⟩
set_option maxRecDepth 20000 in
theorem kp_ti_6 (I : Nat → Nat → Int32) : pm_ti (cbI_56 I 171) (Int32.ofNat (pc_W 6)) (Int32.ofNat (pc_L 6)) := ⟨rfl, rfl, (show (0 : Int32) ≤ 0 by decide), (show (0 : Int32) ≤ 120 by decide)⟩
set_option maxRecDepth 20000 in
theorem kp_ti_7 (I : Nat → Nat → Int32) : pm_ti (cbI_56 I 173) (Int32.ofNat (pc_W 7)) (Int32.ofNat (pc_L 7)) := ⟨rfl, rfl, (show (0 : Int32) ≤ 0 by decide), (show (0 : Int32) ≤ 1200 by decide)⟩
set_option maxRecDepth 20000 in
theorem kp_ti_8 (I : Nat → Nat → Int32) : pm_ti (cbI_56 I 175) (Int32.ofNat (pc_W 8)) (Int32.ofNat (pc_L 8)) := ⟨rfl, rfl, (show (0 : Int32) ≤ 4 by decide), (show (4 : Int32) ≤ 4 by decide)⟩
set_option maxRecDepth 20000 in
theorem kp_ti_9 (I : Nat → Nat → Int32) : pm_ti (cbI_56 I 177) (Int32.ofNat (pc_W 9)) (Int32.ofNat (pc_L 9)) := ⟨rfl, rfl, (show (0 : Int32) ≤ 0 by decide), (show (0 : Int32) ≤ 24 by decide)⟩
set_option maxRecDepth 20000 in
theorem kp_ti_10 (I : Nat → Nat → Int32) : pm_ti (cbI_56 I 179) (Int32.ofNat (pc_W 10)) (Int32.ofNat (pc_L 10)) := ⟨rfl, rfl, (show (0 : Int32) ≤ 0 by decide), (show (0 : Int32) ≤ 7 by decide)⟩
set_option maxRecDepth 20000 in
theorem kp_ti_11 (I : Nat → Nat → Int32) : pm_ti (cbI_56 I 181) (Int32.ofNat (pc_W 11)) (Int32.ofNat (pc_L 11)) := ⟨rfl, rfl, (show (0 : Int32) ≤ 0 by decide), (show (0 : Int32) ≤ 3 by decide)⟩
set_option maxRecDepth 20000 in
theorem kp_ti_12 (I : Nat → Nat → Int32) : pm_ti (cbI_56 I 183) (Int32.ofNat (pc_W 12)) (Int32.ofNat (pc_L 12)) := ⟨rfl, rfl, (show (0 : Int32) ≤ 0 by decide), (show (0 : Int32) ≤ 24 by decide)⟩
theorem kp_ti (I : Nat → Nat → Int32) : ∀ i, i < 13 → pm_ti (cbI_56 I (159 + 2 * i)) (Int32.ofNat (pc_W i)) (Int32.ofNat (pc_L i)) := fun i hi => by
  match i, hi with
  | 0, _ => exact kp_ti_0 I
  | 1, _ => exact kp_ti_1 I
  | 2, _ => exact kp_ti_2 I
  | 3, _ => exact kp_ti_3 I
  | 4, _ => exact kp_ti_4 I
  | 5, _ => exact kp_ti_5 I
  | 6, _ => exact kp_ti_6 I
  | 7, _ => exact kp_ti_7 I
  | 8, _ => exact kp_ti_8 I
  | 9, _ => exact kp_ti_9 I
  | 10, _ => exact kp_ti_10 I
  | 11, _ => exact kp_ti_11 I
  | 12, _ => exact kp_ti_12 I
  | n + 13, hi => exact absurd hi (by omega)
theorem kp_I0 {I : Nat → Nat → Int32} {k : Nat} (hk : k < 158) : cbI_0 I k = I k := rfl
theorem kp_I1 {I : Nat → Nat → Int32} {k : Nat} (hk : k < 158) : cbI_1 I k = I k := by
  funext j
  show (if k = 158 then 0 else cbI_0 I k j) = _
  rw [if_neg (by omega), kp_I0 hk]
theorem kp_I2 {I : Nat → Nat → Int32} {k : Nat} (hk : k < 158) : cbI_2 I k = I k := by
  funext j
  show (if k = 159 then 0 else cbI_1 I k j) = _
  rw [if_neg (by omega), kp_I1 hk]
theorem kp_I3 {I : Nat → Nat → Int32} {k : Nat} (hk : k < 158) : cbI_3 I k = I k := by
  show pm_u (cbI_2 I) 159 _ _ k = _
  rw [pm_u_row, if_neg (by omega), kp_I2 hk]
theorem kp_I4 {I : Nat → Nat → Int32} {k : Nat} (hk : k < 158) : cbI_4 I k = I k := by
  show pm_u (cbI_3 I) 159 _ _ k = _
  rw [pm_u_row, if_neg (by omega), kp_I3 hk]
theorem kp_I5 {I : Nat → Nat → Int32} {k : Nat} (hk : k < 158) : cbI_5 I k = I k := by
  funext j
  show (if k = 160 then 0 else cbI_4 I k j) = _
  rw [if_neg (by omega), kp_I4 hk]
theorem kp_I6 {I : Nat → Nat → Int32} {k : Nat} (hk : k < 158) : cbI_6 I k = I k := by
  funext j
  show (if k = 161 then 0 else cbI_5 I k j) = _
  rw [if_neg (by omega), kp_I5 hk]
theorem kp_I7 {I : Nat → Nat → Int32} {k : Nat} (hk : k < 158) : cbI_7 I k = I k := by
  show pm_u (cbI_6 I) 161 _ _ k = _
  rw [pm_u_row, if_neg (by omega), kp_I6 hk]
theorem kp_I8 {I : Nat → Nat → Int32} {k : Nat} (hk : k < 158) : cbI_8 I k = I k := by
  show pm_u (cbI_7 I) 161 _ _ k = _
  rw [pm_u_row, if_neg (by omega), kp_I7 hk]
theorem kp_I9 {I : Nat → Nat → Int32} {k : Nat} (hk : k < 158) : cbI_9 I k = I k := by
  funext j
  show (if k = 162 then 0 else cbI_8 I k j) = _
  rw [if_neg (by omega), kp_I8 hk]
theorem kp_I10 {I : Nat → Nat → Int32} {k : Nat} (hk : k < 158) : cbI_10 I k = I k := by
  funext j
  show (if k = 163 then 0 else cbI_9 I k j) = _
  rw [if_neg (by omega), kp_I9 hk]
theorem kp_I11 {I : Nat → Nat → Int32} {k : Nat} (hk : k < 158) : cbI_11 I k = I k := by
  show pm_u (cbI_10 I) 163 _ _ k = _
  rw [pm_u_row, if_neg (by omega), kp_I10 hk]
theorem kp_I12 {I : Nat → Nat → Int32} {k : Nat} (hk : k < 158) : cbI_12 I k = I k := by
  show pm_u (cbI_11 I) 163 _ _ k = _
  rw [pm_u_row, if_neg (by omega), kp_I11 hk]
theorem kp_I13 {I : Nat → Nat → Int32} {k : Nat} (hk : k < 158) : cbI_13 I k = I k := by
  funext j
  show (if k = 164 then 0 else cbI_12 I k j) = _
  rw [if_neg (by omega), kp_I12 hk]
theorem kp_I14 {I : Nat → Nat → Int32} {k : Nat} (hk : k < 158) : cbI_14 I k = I k := by
  funext j
  show (if k = 165 then 0 else cbI_13 I k j) = _
  rw [if_neg (by omega), kp_I13 hk]
theorem kp_I15 {I : Nat → Nat → Int32} {k : Nat} (hk : k < 158) : cbI_15 I k = I k := by
  show pm_u (cbI_14 I) 165 _ _ k = _
  rw [pm_u_row, if_neg (by omega), kp_I14 hk]
theorem kp_I16 {I : Nat → Nat → Int32} {k : Nat} (hk : k < 158) : cbI_16 I k = I k := by
  show pm_u (cbI_15 I) 165 _ _ k = _
  rw [pm_u_row, if_neg (by omega), kp_I15 hk]
theorem kp_I17 {I : Nat → Nat → Int32} {k : Nat} (hk : k < 158) : cbI_17 I k = I k := by
  funext j
  show (if k = 166 then 0 else cbI_16 I k j) = _
  rw [if_neg (by omega), kp_I16 hk]
theorem kp_I18 {I : Nat → Nat → Int32} {k : Nat} (hk : k < 158) : cbI_18 I k = I k := by
  funext j
  show (if k = 167 then 0 else cbI_17 I k j) = _
  rw [if_neg (by omega), kp_I17 hk]
theorem kp_I19 {I : Nat → Nat → Int32} {k : Nat} (hk : k < 158) : cbI_19 I k = I k := by
  show pm_u (cbI_18 I) 167 _ _ k = _
  rw [pm_u_row, if_neg (by omega), kp_I18 hk]
theorem kp_I20 {I : Nat → Nat → Int32} {k : Nat} (hk : k < 158) : cbI_20 I k = I k := by
  show pm_u (cbI_19 I) 167 _ _ k = _
  rw [pm_u_row, if_neg (by omega), kp_I19 hk]
theorem kp_I21 {I : Nat → Nat → Int32} {k : Nat} (hk : k < 158) : cbI_21 I k = I k := by
  funext j
  show (if k = 168 then 0 else cbI_20 I k j) = _
  rw [if_neg (by omega), kp_I20 hk]
theorem kp_I22 {I : Nat → Nat → Int32} {k : Nat} (hk : k < 158) : cbI_22 I k = I k := by
  funext j
  show (if k = 169 then 0 else cbI_21 I k j) = _
  rw [if_neg (by omega), kp_I21 hk]
theorem kp_I23 {I : Nat → Nat → Int32} {k : Nat} (hk : k < 158) : cbI_23 I k = I k := by
  show pm_u (cbI_22 I) 169 _ _ k = _
  rw [pm_u_row, if_neg (by omega), kp_I22 hk]
theorem kp_I24 {I : Nat → Nat → Int32} {k : Nat} (hk : k < 158) : cbI_24 I k = I k := by
  show pm_u (cbI_23 I) 169 _ _ k = _
  rw [pm_u_row, if_neg (by omega), kp_I23 hk]
theorem kp_I25 {I : Nat → Nat → Int32} {k : Nat} (hk : k < 158) : cbI_25 I k = I k := by
  funext j
  show (if k = 170 then 0 else cbI_24 I k j) = _
  rw [if_neg (by omega), kp_I24 hk]
theorem kp_I26 {I : Nat → Nat → Int32} {k : Nat} (hk : k < 158) : cbI_26 I k = I k := by
  funext j
  show (if k = 171 then 0 else cbI_25 I k j) = _
  rw [if_neg (by omega), kp_I25 hk]
theorem kp_I27 {I : Nat → Nat → Int32} {k : Nat} (hk : k < 158) : cbI_27 I k = I k := by
  show pm_u (cbI_26 I) 171 _ _ k = _
  rw [pm_u_row, if_neg (by omega), kp_I26 hk]
theorem kp_I28 {I : Nat → Nat → Int32} {k : Nat} (hk : k < 158) : cbI_28 I k = I k := by
  show pm_u (cbI_27 I) 171 _ _ k = _
  rw [pm_u_row, if_neg (by omega), kp_I27 hk]
theorem kp_I29 {I : Nat → Nat → Int32} {k : Nat} (hk : k < 158) : cbI_29 I k = I k := by
  funext j
  show (if k = 172 then 0 else cbI_28 I k j) = _
  rw [if_neg (by omega), kp_I28 hk]
theorem kp_I30 {I : Nat → Nat → Int32} {k : Nat} (hk : k < 158) : cbI_30 I k = I k := by
  funext j
  show (if k = 173 then 0 else cbI_29 I k j) = _
  rw [if_neg (by omega), kp_I29 hk]
theorem kp_I31 {I : Nat → Nat → Int32} {k : Nat} (hk : k < 158) : cbI_31 I k = I k := by
  show pm_u (cbI_30 I) 173 _ _ k = _
  rw [pm_u_row, if_neg (by omega), kp_I30 hk]
theorem kp_I32 {I : Nat → Nat → Int32} {k : Nat} (hk : k < 158) : cbI_32 I k = I k := by
  show pm_u (cbI_31 I) 173 _ _ k = _
  rw [pm_u_row, if_neg (by omega), kp_I31 hk]
theorem kp_I33 {I : Nat → Nat → Int32} {k : Nat} (hk : k < 158) : cbI_33 I k = I k := by
  funext j
  show (if k = 174 then 0 else cbI_32 I k j) = _
  rw [if_neg (by omega), kp_I32 hk]
theorem kp_I34 {I : Nat → Nat → Int32} {k : Nat} (hk : k < 158) : cbI_34 I k = I k := by
  funext j
  show (if k = 175 then 0 else cbI_33 I k j) = _
  rw [if_neg (by omega), kp_I33 hk]
theorem kp_I35 {I : Nat → Nat → Int32} {k : Nat} (hk : k < 158) : cbI_35 I k = I k := by
  show pm_u (cbI_34 I) 175 _ _ k = _
  rw [pm_u_row, if_neg (by omega), kp_I34 hk]
theorem kp_I36 {I : Nat → Nat → Int32} {k : Nat} (hk : k < 158) : cbI_36 I k = I k := by
  show pm_u (cbI_35 I) 175 _ _ k = _
  rw [pm_u_row, if_neg (by omega), kp_I35 hk]
theorem kp_I37 {I : Nat → Nat → Int32} {k : Nat} (hk : k < 158) : cbI_37 I k = I k := by
  funext j
  show (if k = 176 then 0 else cbI_36 I k j) = _
  rw [if_neg (by omega), kp_I36 hk]
theorem kp_I38 {I : Nat → Nat → Int32} {k : Nat} (hk : k < 158) : cbI_38 I k = I k := by
  funext j
  show (if k = 177 then 0 else cbI_37 I k j) = _
  rw [if_neg (by omega), kp_I37 hk]
theorem kp_I39 {I : Nat → Nat → Int32} {k : Nat} (hk : k < 158) : cbI_39 I k = I k := by
  show pm_u (cbI_38 I) 177 _ _ k = _
  rw [pm_u_row, if_neg (by omega), kp_I38 hk]
theorem kp_I40 {I : Nat → Nat → Int32} {k : Nat} (hk : k < 158) : cbI_40 I k = I k := by
  show pm_u (cbI_39 I) 177 _ _ k = _
  rw [pm_u_row, if_neg (by omega), kp_I39 hk]
theorem kp_I41 {I : Nat → Nat → Int32} {k : Nat} (hk : k < 158) : cbI_41 I k = I k := by
  funext j
  show (if k = 178 then 0 else cbI_40 I k j) = _
  rw [if_neg (by omega), kp_I40 hk]
theorem kp_I42 {I : Nat → Nat → Int32} {k : Nat} (hk : k < 158) : cbI_42 I k = I k := by
  funext j
  show (if k = 179 then 0 else cbI_41 I k j) = _
  rw [if_neg (by omega), kp_I41 hk]
theorem kp_I43 {I : Nat → Nat → Int32} {k : Nat} (hk : k < 158) : cbI_43 I k = I k := by
  show pm_u (cbI_42 I) 179 _ _ k = _
  rw [pm_u_row, if_neg (by omega), kp_I42 hk]
theorem kp_I44 {I : Nat → Nat → Int32} {k : Nat} (hk : k < 158) : cbI_44 I k = I k := by
  show pm_u (cbI_43 I) 179 _ _ k = _
  rw [pm_u_row, if_neg (by omega), kp_I43 hk]
theorem kp_I45 {I : Nat → Nat → Int32} {k : Nat} (hk : k < 158) : cbI_45 I k = I k := by
  funext j
  show (if k = 180 then 0 else cbI_44 I k j) = _
  rw [if_neg (by omega), kp_I44 hk]
theorem kp_I46 {I : Nat → Nat → Int32} {k : Nat} (hk : k < 158) : cbI_46 I k = I k := by
  funext j
  show (if k = 181 then 0 else cbI_45 I k j) = _
  rw [if_neg (by omega), kp_I45 hk]
theorem kp_I47 {I : Nat → Nat → Int32} {k : Nat} (hk : k < 158) : cbI_47 I k = I k := by
  show pm_u (cbI_46 I) 181 _ _ k = _
  rw [pm_u_row, if_neg (by omega), kp_I46 hk]
theorem kp_I48 {I : Nat → Nat → Int32} {k : Nat} (hk : k < 158) : cbI_48 I k = I k := by
  show pm_u (cbI_47 I) 181 _ _ k = _
  rw [pm_u_row, if_neg (by omega), kp_I47 hk]
theorem kp_I49 {I : Nat → Nat → Int32} {k : Nat} (hk : k < 158) : cbI_49 I k = I k := by
  funext j
  show (if k = 182 then 0 else cbI_48 I k j) = _
  rw [if_neg (by omega), kp_I48 hk]
theorem kp_I50 {I : Nat → Nat → Int32} {k : Nat} (hk : k < 158) : cbI_50 I k = I k := by
  funext j
  show (if k = 183 then 0 else cbI_49 I k j) = _
  rw [if_neg (by omega), kp_I49 hk]
theorem kp_I51 {I : Nat → Nat → Int32} {k : Nat} (hk : k < 158) : cbI_51 I k = I k := by
  show pm_u (cbI_50 I) 183 _ _ k = _
  rw [pm_u_row, if_neg (by omega), kp_I50 hk]
theorem kp_I52 {I : Nat → Nat → Int32} {k : Nat} (hk : k < 158) : cbI_52 I k = I k := by
  show pm_u (cbI_51 I) 183 _ _ k = _
  rw [pm_u_row, if_neg (by omega), kp_I51 hk]
theorem kp_I53 {I : Nat → Nat → Int32} {k : Nat} (hk : k < 158) : cbI_53 I k = I k := by
  funext j
  show (if k = 184 then 0 else cbI_52 I k j) = _
  rw [if_neg (by omega), kp_I52 hk]
theorem kp_I54 {I : Nat → Nat → Int32} {k : Nat} (hk : k < 158) : cbI_54 I k = I k := by
  show pm_u (cbI_53 I) 175 _ _ k = _
  rw [pm_u_row, if_neg (by omega), kp_I53 hk]
theorem kp_I55 {I : Nat → Nat → Int32} {k : Nat} (hk : k < 158) : cbI_55 I k = I k := by
  show pm_u (cbI_54 I) 159 _ _ k = _
  rw [pm_u_row, if_neg (by omega), kp_I54 hk]
theorem kp_I56 {I : Nat → Nat → Int32} {k : Nat} (hk : k < 158) : cbI_56 I k = I k := by
  funext j
  show (if k = 160 ∧ j < 100 then _ else cbI_55 I k j) = _
  rw [if_neg (by omega), kp_I55 hk]
theorem kp_J0 {J : Nat → Nat → Int64} {k : Nat} (hk : k < 158) : cbJ_0 J k = J k := rfl
theorem kp_J1 {J : Nat → Nat → Int64} {k : Nat} (hk : k < 158) : cbJ_1 J k = J k := by
  funext j
  show (if k = 158 then 0 else cbJ_0 J k j) = _
  rw [if_neg (by omega), kp_J0 hk]
theorem kp_J2 {J : Nat → Nat → Int64} {k : Nat} (hk : k < 158) : cbJ_2 J k = J k := by
  funext j
  show (if k = 159 then 0 else cbJ_1 J k j) = _
  rw [if_neg (by omega), kp_J1 hk]
theorem kp_J3 {J : Nat → Nat → Int64} {k : Nat} (hk : k < 158) : cbJ_3 J k = J k := by
  funext j
  show (if k = 160 then 0 else cbJ_2 J k j) = _
  rw [if_neg (by omega), kp_J2 hk]
theorem kp_J4 {J : Nat → Nat → Int64} {k : Nat} (hk : k < 158) : cbJ_4 J k = J k := by
  funext j
  show (if k = 161 then 0 else cbJ_3 J k j) = _
  rw [if_neg (by omega), kp_J3 hk]
theorem kp_J5 {J : Nat → Nat → Int64} {k : Nat} (hk : k < 158) : cbJ_5 J k = J k := by
  funext j
  show (if k = 162 then 0 else cbJ_4 J k j) = _
  rw [if_neg (by omega), kp_J4 hk]
theorem kp_J6 {J : Nat → Nat → Int64} {k : Nat} (hk : k < 158) : cbJ_6 J k = J k := by
  funext j
  show (if k = 163 then 0 else cbJ_5 J k j) = _
  rw [if_neg (by omega), kp_J5 hk]
theorem kp_J7 {J : Nat → Nat → Int64} {k : Nat} (hk : k < 158) : cbJ_7 J k = J k := by
  funext j
  show (if k = 164 then 0 else cbJ_6 J k j) = _
  rw [if_neg (by omega), kp_J6 hk]
theorem kp_J8 {J : Nat → Nat → Int64} {k : Nat} (hk : k < 158) : cbJ_8 J k = J k := by
  funext j
  show (if k = 165 then 0 else cbJ_7 J k j) = _
  rw [if_neg (by omega), kp_J7 hk]
theorem kp_J9 {J : Nat → Nat → Int64} {k : Nat} (hk : k < 158) : cbJ_9 J k = J k := by
  funext j
  show (if k = 166 then 0 else cbJ_8 J k j) = _
  rw [if_neg (by omega), kp_J8 hk]
theorem kp_J10 {J : Nat → Nat → Int64} {k : Nat} (hk : k < 158) : cbJ_10 J k = J k := by
  funext j
  show (if k = 167 then 0 else cbJ_9 J k j) = _
  rw [if_neg (by omega), kp_J9 hk]
theorem kp_J11 {J : Nat → Nat → Int64} {k : Nat} (hk : k < 158) : cbJ_11 J k = J k := by
  funext j
  show (if k = 168 then 0 else cbJ_10 J k j) = _
  rw [if_neg (by omega), kp_J10 hk]
theorem kp_J12 {J : Nat → Nat → Int64} {k : Nat} (hk : k < 158) : cbJ_12 J k = J k := by
  funext j
  show (if k = 169 then 0 else cbJ_11 J k j) = _
  rw [if_neg (by omega), kp_J11 hk]
theorem kp_J13 {J : Nat → Nat → Int64} {k : Nat} (hk : k < 158) : cbJ_13 J k = J k := by
  funext j
  show (if k = 170 then 0 else cbJ_12 J k j) = _
  rw [if_neg (by omega), kp_J12 hk]
theorem kp_J14 {J : Nat → Nat → Int64} {k : Nat} (hk : k < 158) : cbJ_14 J k = J k := by
  funext j
  show (if k = 171 then 0 else cbJ_13 J k j) = _
  rw [if_neg (by omega), kp_J13 hk]
theorem kp_J15 {J : Nat → Nat → Int64} {k : Nat} (hk : k < 158) : cbJ_15 J k = J k := by
  funext j
  show (if k = 172 then 0 else cbJ_14 J k j) = _
  rw [if_neg (by omega), kp_J14 hk]
theorem kp_J16 {J : Nat → Nat → Int64} {k : Nat} (hk : k < 158) : cbJ_16 J k = J k := by
  funext j
  show (if k = 173 then 0 else cbJ_15 J k j) = _
  rw [if_neg (by omega), kp_J15 hk]
theorem kp_J17 {J : Nat → Nat → Int64} {k : Nat} (hk : k < 158) : cbJ_17 J k = J k := by
  funext j
  show (if k = 174 then 0 else cbJ_16 J k j) = _
  rw [if_neg (by omega), kp_J16 hk]
theorem kp_J18 {J : Nat → Nat → Int64} {k : Nat} (hk : k < 158) : cbJ_18 J k = J k := by
  funext j
  show (if k = 175 then 0 else cbJ_17 J k j) = _
  rw [if_neg (by omega), kp_J17 hk]
theorem kp_J19 {J : Nat → Nat → Int64} {k : Nat} (hk : k < 158) : cbJ_19 J k = J k := by
  funext j
  show (if k = 176 then 0 else cbJ_18 J k j) = _
  rw [if_neg (by omega), kp_J18 hk]
theorem kp_J20 {J : Nat → Nat → Int64} {k : Nat} (hk : k < 158) : cbJ_20 J k = J k := by
  funext j
  show (if k = 177 then 0 else cbJ_19 J k j) = _
  rw [if_neg (by omega), kp_J19 hk]
theorem kp_J21 {J : Nat → Nat → Int64} {k : Nat} (hk : k < 158) : cbJ_21 J k = J k := by
  funext j
  show (if k = 178 then 0 else cbJ_20 J k j) = _
  rw [if_neg (by omega), kp_J20 hk]
theorem kp_J22 {J : Nat → Nat → Int64} {k : Nat} (hk : k < 158) : cbJ_22 J k = J k := by
  funext j
  show (if k = 179 then 0 else cbJ_21 J k j) = _
  rw [if_neg (by omega), kp_J21 hk]
theorem kp_J23 {J : Nat → Nat → Int64} {k : Nat} (hk : k < 158) : cbJ_23 J k = J k := by
  funext j
  show (if k = 180 then 0 else cbJ_22 J k j) = _
  rw [if_neg (by omega), kp_J22 hk]
theorem kp_J24 {J : Nat → Nat → Int64} {k : Nat} (hk : k < 158) : cbJ_24 J k = J k := by
  funext j
  show (if k = 181 then 0 else cbJ_23 J k j) = _
  rw [if_neg (by omega), kp_J23 hk]
theorem kp_J25 {J : Nat → Nat → Int64} {k : Nat} (hk : k < 158) : cbJ_25 J k = J k := by
  funext j
  show (if k = 182 then 0 else cbJ_24 J k j) = _
  rw [if_neg (by omega), kp_J24 hk]
theorem kp_J26 {J : Nat → Nat → Int64} {k : Nat} (hk : k < 158) : cbJ_26 J k = J k := by
  funext j
  show (if k = 183 then 0 else cbJ_25 J k j) = _
  rw [if_neg (by omega), kp_J25 hk]
theorem kp_J27 {J : Nat → Nat → Int64} {k : Nat} (hk : k < 158) : cbJ_27 J k = J k := by
  funext j
  show (if k = 184 then 0 else cbJ_26 J k j) = _
  rw [if_neg (by omega), kp_J26 hk]
theorem kp_I {I : Nat → Nat → Int32} {k : Nat} (hk : k < 158) : cbI_56 I k = I k := kp_I56 hk
theorem kp_J {J : Nat → Nat → Int64} {k : Nat} (hk : k < 158) : cbJ_27 J k = J k := kp_J27 hk

