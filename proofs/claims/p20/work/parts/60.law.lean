section LAW
variable {l : Launch} {G : xG} {N : Nat} {I : Nat → Nat → Int32} {J : Nat → Nat → Int64} {P : Nat → Nat → Option xQ} {V : Nat → Nat → Int32} {A : Nat → Nat → Int32} {B : Nat → Nat → Int64}
variable {h : xH} {ls : Nat → List Nat} {t : Int} {n kc ks : Nat} {e : Int32}
def nkL : List xQ := (5, 0) :: nkC ++ (14, 0) :: nkR ++ (List.range 121).map (fun k => (0, k))
theorem nk_0 {N : Nat} (h : N ≤ 120) : ∀ a ∈ [((0 : Nat), N)], a ∈ nkL := by
  intro a ha
  rw [List.mem_singleton.mp ha]
  unfold nkL
  exact List.mem_append_right _ (List.mem_map.mpr ⟨N, List.mem_range.mpr (by omega), rfl⟩)
/-- the rest of the law, from the end of a case on -/
def NX (l : Launch) (G : xG) (e : Int32) (n : Nat) (t : Int) : Prop := ∀ (N : Nat) (I : Nat → Nat → Int32) (J : Nat → Nat → Int64) (V : Nat → Nat → Int32) (ls : Nat → List Nat) (A : Nat → Nat → Int32) (B : Nat → Nat → Int64) (h : xH) (kc ks : Nat), HS N (I, J, V, ls) A B h → CV N I ls t → MV A t → TX N (I, J, V, ls) (A, B) t → R11 I → n ≤ kc → 10 * n ≤ ks → x_X l G mL_law 9 kc ks nkL (fun r _ => r = some (xI 1)) 681 [some (xS G.2.2.2.1.2), some (xR (some (5, 0))), some (xR (some (14, 0))), some (xI e)] [] h
theorem TX.eta {N : Nat} {S : cS} {R : mAB} {t : Int} (h : TX N S R t) : TX N (S.1, S.2.1, S.2.2.1, S.2.2.2) (R.1, R.2) t := h
theorem lw_case0 (hX : NX l G e n (t + 12000)) (hS : HS N (I, J, V, ls) A B h) (hV : CV N I ls t) (hM : MV A t) (hT : TX N (I, J, V, ls) (A, B) t) (hR : R11 I) (hkc : n + 1 ≤ kc) (hks : 10 * (n + 1) ≤ ks) (ht0 : 0 ≤ t) (ht : t + 12000 < 9000000) (hsc : ∀ c : Int32, 1 ≤ c.toInt → c.toInt ≤ 5 → vp_in (e + c) G.2.2.2.2.1) : x_X l G mL_law 9 kc ks nkL (fun r _ => r = some (xI 1)) 124 [some (xS G.2.2.2.1.2), some (xR (some (5, 0))), some (xR (some (14, 0))), some (xI e)] [] h := by
  obtain ⟨P, rfl, hQ, hP2⟩ := hS.out
  have hc := hM.1.1
  have hTT : Tie nE N I J V ls A B := hT.1
  refine x_aload_n 125 dL_law_124 rfl rfl ?_
  refine x_aload_n 126 dL_law_125 rfl rfl ?_
  refine x_iload_n 127 dL_law_126 rfl rfl ?_
  refine x_iconst 1 128 dL_law_127 rfl rfl ?_
  refine x_iadd 129 dL_law_128 rfl ?_
  refine x_sld 130 dL_law_129 rfl (hsc 1 (by decide) (by decide)) ?_
  refine x_aload_n 131 dL_law_130 rfl rfl ?_
  refine x_iload_n 132 dL_law_131 rfl rfl ?_
  refine x_iconst 2 133 dL_law_132 rfl rfl ?_
  refine x_iadd 134 dL_law_133 rfl ?_
  refine x_sld 135 dL_law_134 rfl (hsc 2 (by decide) (by decide)) ?_
  refine x_gVv 138 (cC_deposit hS (G.2.2.2.2.2 (e + 1).toNatClampNeg) (G.2.2.2.2.2 (e + 2).toNatClampNeg)) kL_13 oC_deposit rfl rfl dL_law_135 rfl rfl (by decide) (Nat.le_of_ble_eq_true rfl) (fun h1 hq => ?_)
  obtain ⟨P, rfl, hQ, hP2⟩ := hq
  refine x_pop 139 dL_law_138 rfl rfl ?_
  refine x_aload_n 140 dL_law_139 rfl rfl ?_
  refine x_aload_n 141 dL_law_140 rfl rfl ?_
  refine x_iload_n 142 dL_law_141 rfl rfl ?_
  refine x_iconst 1 143 dL_law_142 rfl rfl ?_
  refine x_iadd 144 dL_law_143 rfl ?_
  refine x_sld 145 dL_law_144 rfl (hsc 1 (by decide) (by decide)) ?_
  refine x_aload_n 146 dL_law_145 rfl rfl ?_
  refine x_iload_n 147 dL_law_146 rfl rfl ?_
  refine x_iconst 2 148 dL_law_147 rfl rfl ?_
  refine x_iadd 149 dL_law_148 rfl ?_
  refine x_sld 150 dL_law_149 rfl (hsc 2 (by decide) (by decide)) ?_
  refine x_fVv 153 (cR_deposit hc (G.2.2.2.2.2 (e + 1).toNatClampNeg) (G.2.2.2.2.2 (e + 2).toNatClampNeg)) kL_17 oR_deposit rfl rfl dL_law_150 rfl rfl (by decide) (Nat.le_of_ble_eq_true rfl) ?_
  refine x_pop 154 dL_law_153 rfl rfl ?_
  refine x_goto 681 dL_law_154 (by decide) ?_
  exact hX N (dpS I J V ls (G.2.2.2.2.2 (e + 1).toNatClampNeg) (G.2.2.2.2.2 (e + 2).toNatClampNeg)).2.1 (dpS I J V ls (G.2.2.2.2.2 (e + 1).toNatClampNeg) (G.2.2.2.2.2 (e + 2).toNatClampNeg)).2.2.1 (dpS I J V ls (G.2.2.2.2.2 (e + 1).toNatClampNeg) (G.2.2.2.2.2 (e + 2).toNatClampNeg)).2.2.2.1 (dpS I J V ls (G.2.2.2.2.2 (e + 1).toNatClampNeg) (G.2.2.2.2.2 (e + 2).toNatClampNeg)).2.2.2.2 (dpM A B (G.2.2.2.2.2 (e + 1).toNatClampNeg) (G.2.2.2.2.2 (e + 2).toNatClampNeg)).2.1 (dpM A B (G.2.2.2.2.2 (e + 1).toNatClampNeg) (G.2.2.2.2.2 (e + 2).toNatClampNeg)).2.2 _ kc ks ⟨P, rfl, hQ, hP2⟩ ((dp_ok hV (G.2.2.2.2.2 (e + 1).toNatClampNeg) (G.2.2.2.2.2 (e + 2).toNatClampNeg)).1.up (by omega)) ((dp_m hM (G.2.2.2.2.2 (e + 1).toNatClampNeg) (G.2.2.2.2.2 (e + 2).toNatClampNeg)).1.up (by omega)) ((dp_tie hT hV hM (by omega) (G.2.2.2.2.2 (e + 1).toNatClampNeg) (G.2.2.2.2.2 (e + 2).toNatClampNeg)).2.eta.up (by omega)) (r_dp hR (G.2.2.2.2.2 (e + 1).toNatClampNeg) (G.2.2.2.2.2 (e + 2).toNatClampNeg)) (by omega) (by omega)
theorem lw_case1 (hX : NX l G e n (t + 12000)) (hS : HS N (I, J, V, ls) A B h) (hV : CV N I ls t) (hM : MV A t) (hT : TX N (I, J, V, ls) (A, B) t) (hR : R11 I) (hkc : n + 1 ≤ kc) (hks : 10 * (n + 1) ≤ ks) (ht0 : 0 ≤ t) (ht : t + 12000 < 9000000) (hsc : ∀ c : Int32, 1 ≤ c.toInt → c.toInt ≤ 5 → vp_in (e + c) G.2.2.2.2.1) : x_X l G mL_law 9 kc ks nkL (fun r _ => r = some (xI 1)) 157 [some (xS G.2.2.2.1.2), some (xR (some (5, 0))), some (xR (some (14, 0))), some (xI e)] [] h := by
  obtain ⟨P, rfl, hQ, hP2⟩ := hS.out
  have hc := hM.1.1
  have hTT : Tie nE N I J V ls A B := hT.1
  refine x_aload_n 158 dL_law_157 rfl rfl ?_
  refine x_aload_n 159 dL_law_158 rfl rfl ?_
  refine x_iload_n 160 dL_law_159 rfl rfl ?_
  refine x_iconst 1 161 dL_law_160 rfl rfl ?_
  refine x_iadd 162 dL_law_161 rfl ?_
  refine x_sld 163 dL_law_162 rfl (hsc 1 (by decide) (by decide)) ?_
  refine x_aload_n 164 dL_law_163 rfl rfl ?_
  refine x_iload_n 165 dL_law_164 rfl rfl ?_
  refine x_iconst 2 166 dL_law_165 rfl rfl ?_
  refine x_iadd 167 dL_law_166 rfl ?_
  refine x_sld 168 dL_law_167 rfl (hsc 2 (by decide) (by decide)) ?_
  refine x_aload_n 169 dL_law_168 rfl rfl ?_
  refine x_iload_n 170 dL_law_169 rfl rfl ?_
  refine x_iconst 3 171 dL_law_170 rfl rfl ?_
  refine x_iadd 172 dL_law_171 rfl ?_
  refine x_sld 173 dL_law_172 rfl (hsc 3 (by decide) (by decide)) ?_
  refine x_aload_n 174 dL_law_173 rfl rfl ?_
  refine x_iload_n 175 dL_law_174 rfl rfl ?_
  refine x_iconst 4 176 dL_law_175 rfl rfl ?_
  refine x_iadd 177 dL_law_176 rfl ?_
  refine x_sld 178 dL_law_177 rfl (hsc 4 (by decide) (by decide)) ?_
  refine x_aload_n 179 dL_law_178 rfl rfl ?_
  refine x_iload_n 180 dL_law_179 rfl rfl ?_
  refine x_iconst 5 181 dL_law_180 rfl rfl ?_
  refine x_iadd 182 dL_law_181 rfl ?_
  refine x_sld 183 dL_law_182 rfl (hsc 5 (by decide) (by decide)) ?_
  refine x_aVv 186 (cC_place hS hV (by omega) (G.2.2.2.2.2 (e + 1).toNatClampNeg) (G.2.2.2.2.2 (e + 2).toNatClampNeg) (G.2.2.2.2.2 (e + 3).toNatClampNeg) (G.2.2.2.2.2 (e + 4).toNatClampNeg) (G.2.2.2.2.2 (e + 5).toNatClampNeg)) kL_18 oC_place rfl rfl dL_law_183 rfl rfl (by decide) (by omega) (by omega) (Nat.le_of_ble_eq_true rfl) (nk_0 hV.2.2.1) (fun v hv a ha hva => by rw [List.mem_singleton.mp ha] at hva; rw [hva] at hv; simp at hv) (fun v hv a ha hva => by rw [List.mem_singleton.mp ha] at hva; rw [hva] at hv; simp at hv) (fun h1 hq => ?_)
  have hpl := pl_ok (J := J) (V := V) hV hQ (by omega) (G.2.2.2.2.2 (e + 1).toNatClampNeg) (G.2.2.2.2.2 (e + 2).toNatClampNeg) (G.2.2.2.2.2 (e + 3).toNatClampNeg) (G.2.2.2.2.2 (e + 4).toNatClampNeg) (G.2.2.2.2.2 (e + 5).toNatClampNeg)
  have hpt := pl_tie hT hV hQ hM ht0 ht (G.2.2.2.2.2 (e + 1).toNatClampNeg) (G.2.2.2.2.2 (e + 2).toNatClampNeg) (G.2.2.2.2.2 (e + 3).toNatClampNeg) (G.2.2.2.2.2 (e + 4).toNatClampNeg) (G.2.2.2.2.2 (e + 5).toNatClampNeg)
  have hpr := r_pl (J := J) (V := V) hR hV hQ (G.2.2.2.2.2 (e + 1).toNatClampNeg) (G.2.2.2.2.2 (e + 2).toNatClampNeg) (G.2.2.2.2.2 (e + 3).toNatClampNeg) (G.2.2.2.2.2 (e + 4).toNatClampNeg) (G.2.2.2.2.2 (e + 5).toNatClampNeg)
  obtain ⟨P, rfl, hQ, hP2⟩ := hq
  refine x_pop 187 dL_law_186 rfl rfl ?_
  refine x_aload_n 188 dL_law_187 rfl rfl ?_
  refine x_aload_n 189 dL_law_188 rfl rfl ?_
  refine x_iload_n 190 dL_law_189 rfl rfl ?_
  refine x_iconst 1 191 dL_law_190 rfl rfl ?_
  refine x_iadd 192 dL_law_191 rfl ?_
  refine x_sld 193 dL_law_192 rfl (hsc 1 (by decide) (by decide)) ?_
  refine x_aload_n 194 dL_law_193 rfl rfl ?_
  refine x_iload_n 195 dL_law_194 rfl rfl ?_
  refine x_iconst 2 196 dL_law_195 rfl rfl ?_
  refine x_iadd 197 dL_law_196 rfl ?_
  refine x_sld 198 dL_law_197 rfl (hsc 2 (by decide) (by decide)) ?_
  refine x_aload_n 199 dL_law_198 rfl rfl ?_
  refine x_iload_n 200 dL_law_199 rfl rfl ?_
  refine x_iconst 3 201 dL_law_200 rfl rfl ?_
  refine x_iadd 202 dL_law_201 rfl ?_
  refine x_sld 203 dL_law_202 rfl (hsc 3 (by decide) (by decide)) ?_
  refine x_aload_n 204 dL_law_203 rfl rfl ?_
  refine x_iload_n 205 dL_law_204 rfl rfl ?_
  refine x_iconst 4 206 dL_law_205 rfl rfl ?_
  refine x_iadd 207 dL_law_206 rfl ?_
  refine x_sld 208 dL_law_207 rfl (hsc 4 (by decide) (by decide)) ?_
  refine x_aload_n 209 dL_law_208 rfl rfl ?_
  refine x_iload_n 210 dL_law_209 rfl rfl ?_
  refine x_iconst 5 211 dL_law_210 rfl rfl ?_
  refine x_iadd 212 dL_law_211 rfl ?_
  refine x_sld 213 dL_law_212 rfl (hsc 5 (by decide) (by decide)) ?_
  refine x_fVv 216 (cR_place hM.1 (G.2.2.2.2.2 (e + 1).toNatClampNeg) (G.2.2.2.2.2 (e + 2).toNatClampNeg) (G.2.2.2.2.2 (e + 3).toNatClampNeg) (G.2.2.2.2.2 (e + 4).toNatClampNeg) (G.2.2.2.2.2 (e + 5).toNatClampNeg) 220 (by have := hM.2.2; omega) (fun h14 h23 h44 _ h120 => (pm4_m (B := B) hM (by omega) h120 (vO5 h14) (vO2 h23) (vQ h44).1 (vQ h44).2).1)) kL_22 oR_place rfl rfl dL_law_213 rfl rfl (by decide) (Nat.le_of_ble_eq_true rfl) ?_
  refine x_pop 217 dL_law_216 rfl rfl ?_
  refine x_goto 681 dL_law_217 (by decide) ?_
  exact hX (plS N I J V ls (G.2.2.2.2.2 (e + 1).toNatClampNeg) (G.2.2.2.2.2 (e + 2).toNatClampNeg) (G.2.2.2.2.2 (e + 3).toNatClampNeg) (G.2.2.2.2.2 (e + 4).toNatClampNeg) (G.2.2.2.2.2 (e + 5).toNatClampNeg)).2.1 (plS N I J V ls (G.2.2.2.2.2 (e + 1).toNatClampNeg) (G.2.2.2.2.2 (e + 2).toNatClampNeg) (G.2.2.2.2.2 (e + 3).toNatClampNeg) (G.2.2.2.2.2 (e + 4).toNatClampNeg) (G.2.2.2.2.2 (e + 5).toNatClampNeg)).2.2.1 (plS N I J V ls (G.2.2.2.2.2 (e + 1).toNatClampNeg) (G.2.2.2.2.2 (e + 2).toNatClampNeg) (G.2.2.2.2.2 (e + 3).toNatClampNeg) (G.2.2.2.2.2 (e + 4).toNatClampNeg) (G.2.2.2.2.2 (e + 5).toNatClampNeg)).2.2.2.1 (plS N I J V ls (G.2.2.2.2.2 (e + 1).toNatClampNeg) (G.2.2.2.2.2 (e + 2).toNatClampNeg) (G.2.2.2.2.2 (e + 3).toNatClampNeg) (G.2.2.2.2.2 (e + 4).toNatClampNeg) (G.2.2.2.2.2 (e + 5).toNatClampNeg)).2.2.2.2.1 (plS N I J V ls (G.2.2.2.2.2 (e + 1).toNatClampNeg) (G.2.2.2.2.2 (e + 2).toNatClampNeg) (G.2.2.2.2.2 (e + 3).toNatClampNeg) (G.2.2.2.2.2 (e + 4).toNatClampNeg) (G.2.2.2.2.2 (e + 5).toNatClampNeg)).2.2.2.2.2 (pmS 220 A B (G.2.2.2.2.2 (e + 1).toNatClampNeg) (G.2.2.2.2.2 (e + 2).toNatClampNeg) (G.2.2.2.2.2 (e + 3).toNatClampNeg) (G.2.2.2.2.2 (e + 4).toNatClampNeg) (G.2.2.2.2.2 (e + 5).toNatClampNeg)).2.1 (pmS 220 A B (G.2.2.2.2.2 (e + 1).toNatClampNeg) (G.2.2.2.2.2 (e + 2).toNatClampNeg) (G.2.2.2.2.2 (e + 3).toNatClampNeg) (G.2.2.2.2.2 (e + 4).toNatClampNeg) (G.2.2.2.2.2 (e + 5).toNatClampNeg)).2.2 _ (kc - 1) (ks - 10) ⟨P, rfl, hQ, hP2⟩ (hpl.1.up (by omega)) ((pm_m hM (by omega) (G.2.2.2.2.2 (e + 1).toNatClampNeg) (G.2.2.2.2.2 (e + 2).toNatClampNeg) (G.2.2.2.2.2 (e + 3).toNatClampNeg) (G.2.2.2.2.2 (e + 4).toNatClampNeg) (G.2.2.2.2.2 (e + 5).toNatClampNeg)).1.up (by omega)) (hpt.2.eta) hpr (by omega) (by omega)
theorem lw_case2 (hX : NX l G e n (t + 12000)) (hS : HS N (I, J, V, ls) A B h) (hV : CV N I ls t) (hM : MV A t) (hT : TX N (I, J, V, ls) (A, B) t) (hR : R11 I) (hkc : n + 1 ≤ kc) (hks : 10 * (n + 1) ≤ ks) (ht0 : 0 ≤ t) (ht : t + 12000 < 9000000) (hsc : ∀ c : Int32, 1 ≤ c.toInt → c.toInt ≤ 5 → vp_in (e + c) G.2.2.2.2.1) : x_X l G mL_law 9 kc ks nkL (fun r _ => r = some (xI 1)) 220 [some (xS G.2.2.2.1.2), some (xR (some (5, 0))), some (xR (some (14, 0))), some (xI e)] [] h := by
  obtain ⟨P, rfl, hQ, hP2⟩ := hS.out
  have hc := hM.1.1
  have hTT : Tie nE N I J V ls A B := hT.1
  refine x_aload_n 221 dL_law_220 rfl rfl ?_
  refine x_aload_n 222 dL_law_221 rfl rfl ?_
  refine x_iload_n 223 dL_law_222 rfl rfl ?_
  refine x_iconst 1 224 dL_law_223 rfl rfl ?_
  refine x_iadd 225 dL_law_224 rfl ?_
  refine x_sld 226 dL_law_225 rfl (hsc 1 (by decide) (by decide)) ?_
  refine x_aload_n 227 dL_law_226 rfl rfl ?_
  refine x_iload_n 228 dL_law_227 rfl rfl ?_
  refine x_iconst 2 229 dL_law_228 rfl rfl ?_
  refine x_iadd 230 dL_law_229 rfl ?_
  refine x_sld 231 dL_law_230 rfl (hsc 2 (by decide) (by decide)) ?_
  refine x_gVv 234 (cC_cancel hS hV (G.2.2.2.2.2 (e + 1).toNatClampNeg) (G.2.2.2.2.2 (e + 2).toNatClampNeg)) kL_23 oC_cancel rfl rfl dL_law_231 rfl rfl (by decide) (Nat.le_of_ble_eq_true rfl) (fun h1 hq => ?_)
  obtain ⟨P, rfl, hQ, hP2⟩ := hq
  refine x_pop 235 dL_law_234 rfl rfl ?_
  refine x_aload_n 236 dL_law_235 rfl rfl ?_
  refine x_aload_n 237 dL_law_236 rfl rfl ?_
  refine x_iload_n 238 dL_law_237 rfl rfl ?_
  refine x_iconst 1 239 dL_law_238 rfl rfl ?_
  refine x_iadd 240 dL_law_239 rfl ?_
  refine x_sld 241 dL_law_240 rfl (hsc 1 (by decide) (by decide)) ?_
  refine x_aload_n 242 dL_law_241 rfl rfl ?_
  refine x_iload_n 243 dL_law_242 rfl rfl ?_
  refine x_iconst 2 244 dL_law_243 rfl rfl ?_
  refine x_iadd 245 dL_law_244 rfl ?_
  refine x_sld 246 dL_law_245 rfl (hsc 2 (by decide) (by decide)) ?_
  refine x_fVv 249 (cR_cancel hc (G.2.2.2.2.2 (e + 1).toNatClampNeg) (G.2.2.2.2.2 (e + 2).toNatClampNeg)) kL_26 oR_cancel rfl rfl dL_law_246 rfl rfl (by decide) (Nat.le_of_ble_eq_true rfl) ?_
  refine x_pop 250 dL_law_249 rfl rfl ?_
  refine x_goto 681 dL_law_250 (by decide) ?_
  exact hX N (cnS I J V ls (G.2.2.2.2.2 (e + 1).toNatClampNeg) (G.2.2.2.2.2 (e + 2).toNatClampNeg)).2.1 (cnS I J V ls (G.2.2.2.2.2 (e + 1).toNatClampNeg) (G.2.2.2.2.2 (e + 2).toNatClampNeg)).2.2.1 (cnS I J V ls (G.2.2.2.2.2 (e + 1).toNatClampNeg) (G.2.2.2.2.2 (e + 2).toNatClampNeg)).2.2.2.1 (cnS I J V ls (G.2.2.2.2.2 (e + 1).toNatClampNeg) (G.2.2.2.2.2 (e + 2).toNatClampNeg)).2.2.2.2 (cnM A B (G.2.2.2.2.2 (e + 1).toNatClampNeg) (G.2.2.2.2.2 (e + 2).toNatClampNeg)).2.1 (cnM A B (G.2.2.2.2.2 (e + 1).toNatClampNeg) (G.2.2.2.2.2 (e + 2).toNatClampNeg)).2.2 _ kc ks ⟨P, rfl, hQ, hP2⟩ ((cn_ok hV (G.2.2.2.2.2 (e + 1).toNatClampNeg) (G.2.2.2.2.2 (e + 2).toNatClampNeg)).1.up (by omega)) ((cn_m hM (G.2.2.2.2.2 (e + 1).toNatClampNeg) (G.2.2.2.2.2 (e + 2).toNatClampNeg)).1.up (by omega)) ((cn_tie hT hV hM (G.2.2.2.2.2 (e + 1).toNatClampNeg) (G.2.2.2.2.2 (e + 2).toNatClampNeg)).2.eta.up (by omega)) (r_cn hR (G.2.2.2.2.2 (e + 1).toNatClampNeg) (G.2.2.2.2.2 (e + 2).toNatClampNeg)) (by omega) (by omega)
theorem lw_case3 (hX : NX l G e n (t + 12000)) (hS : HS N (I, J, V, ls) A B h) (hV : CV N I ls t) (hM : MV A t) (hT : TX N (I, J, V, ls) (A, B) t) (hR : R11 I) (hkc : n + 1 ≤ kc) (hks : 10 * (n + 1) ≤ ks) (ht0 : 0 ≤ t) (ht : t + 12000 < 9000000) (hsc : ∀ c : Int32, 1 ≤ c.toInt → c.toInt ≤ 5 → vp_in (e + c) G.2.2.2.2.1) : x_X l G mL_law 9 kc ks nkL (fun r _ => r = some (xI 1)) 253 [some (xS G.2.2.2.1.2), some (xR (some (5, 0))), some (xR (some (14, 0))), some (xI e)] [] h := by
  obtain ⟨P, rfl, hQ, hP2⟩ := hS.out
  have hc := hM.1.1
  have hTT : Tie nE N I J V ls A B := hT.1
  refine x_aload_n 254 dL_law_253 rfl rfl ?_
  refine x_aload_n 255 dL_law_254 rfl rfl ?_
  refine x_iload_n 256 dL_law_255 rfl rfl ?_
  refine x_iconst 1 257 dL_law_256 rfl rfl ?_
  refine x_iadd 258 dL_law_257 rfl ?_
  refine x_sld 259 dL_law_258 rfl (hsc 1 (by decide) (by decide)) ?_
  refine x_aload_n 260 dL_law_259 rfl rfl ?_
  refine x_iload_n 261 dL_law_260 rfl rfl ?_
  refine x_iconst 2 262 dL_law_261 rfl rfl ?_
  refine x_iadd 263 dL_law_262 rfl ?_
  refine x_sld 264 dL_law_263 rfl (hsc 2 (by decide) (by decide)) ?_
  refine x_aload_n 265 dL_law_264 rfl rfl ?_
  refine x_iload_n 266 dL_law_265 rfl rfl ?_
  refine x_iconst 3 267 dL_law_266 rfl rfl ?_
  refine x_iadd 268 dL_law_267 rfl ?_
  refine x_sld 269 dL_law_268 rfl (hsc 3 (by decide) (by decide)) ?_
  refine x_gVv 272 (cC_amend hS hV (G.2.2.2.2.2 (e + 1).toNatClampNeg) (G.2.2.2.2.2 (e + 2).toNatClampNeg) (G.2.2.2.2.2 (e + 3).toNatClampNeg)) kL_27 oC_amend rfl rfl dL_law_269 rfl rfl (by decide) (Nat.le_of_ble_eq_true rfl) (fun h1 hq => ?_)
  obtain ⟨P, rfl, hQ, hP2⟩ := hq
  refine x_pop 273 dL_law_272 rfl rfl ?_
  refine x_aload_n 274 dL_law_273 rfl rfl ?_
  refine x_aload_n 275 dL_law_274 rfl rfl ?_
  refine x_iload_n 276 dL_law_275 rfl rfl ?_
  refine x_iconst 1 277 dL_law_276 rfl rfl ?_
  refine x_iadd 278 dL_law_277 rfl ?_
  refine x_sld 279 dL_law_278 rfl (hsc 1 (by decide) (by decide)) ?_
  refine x_aload_n 280 dL_law_279 rfl rfl ?_
  refine x_iload_n 281 dL_law_280 rfl rfl ?_
  refine x_iconst 2 282 dL_law_281 rfl rfl ?_
  refine x_iadd 283 dL_law_282 rfl ?_
  refine x_sld 284 dL_law_283 rfl (hsc 2 (by decide) (by decide)) ?_
  refine x_aload_n 285 dL_law_284 rfl rfl ?_
  refine x_iload_n 286 dL_law_285 rfl rfl ?_
  refine x_iconst 3 287 dL_law_286 rfl rfl ?_
  refine x_iadd 288 dL_law_287 rfl ?_
  refine x_sld 289 dL_law_288 rfl (hsc 3 (by decide) (by decide)) ?_
  refine x_fVv 292 (cR_amend hc (G.2.2.2.2.2 (e + 1).toNatClampNeg) (G.2.2.2.2.2 (e + 2).toNatClampNeg) (G.2.2.2.2.2 (e + 3).toNatClampNeg)) kL_31 oR_amend rfl rfl dL_law_289 rfl rfl (by decide) (Nat.le_of_ble_eq_true rfl) ?_
  refine x_pop 293 dL_law_292 rfl rfl ?_
  refine x_goto 681 dL_law_293 (by decide) ?_
  exact hX N (amS I J V ls (G.2.2.2.2.2 (e + 1).toNatClampNeg) (G.2.2.2.2.2 (e + 2).toNatClampNeg) (G.2.2.2.2.2 (e + 3).toNatClampNeg)).2.1 (amS I J V ls (G.2.2.2.2.2 (e + 1).toNatClampNeg) (G.2.2.2.2.2 (e + 2).toNatClampNeg) (G.2.2.2.2.2 (e + 3).toNatClampNeg)).2.2.1 (amS I J V ls (G.2.2.2.2.2 (e + 1).toNatClampNeg) (G.2.2.2.2.2 (e + 2).toNatClampNeg) (G.2.2.2.2.2 (e + 3).toNatClampNeg)).2.2.2.1 (amS I J V ls (G.2.2.2.2.2 (e + 1).toNatClampNeg) (G.2.2.2.2.2 (e + 2).toNatClampNeg) (G.2.2.2.2.2 (e + 3).toNatClampNeg)).2.2.2.2 (amM A B (G.2.2.2.2.2 (e + 1).toNatClampNeg) (G.2.2.2.2.2 (e + 2).toNatClampNeg) (G.2.2.2.2.2 (e + 3).toNatClampNeg)).2.1 (amM A B (G.2.2.2.2.2 (e + 1).toNatClampNeg) (G.2.2.2.2.2 (e + 2).toNatClampNeg) (G.2.2.2.2.2 (e + 3).toNatClampNeg)).2.2 _ kc ks ⟨P, rfl, hQ, hP2⟩ ((am_ok hV (G.2.2.2.2.2 (e + 1).toNatClampNeg) (G.2.2.2.2.2 (e + 2).toNatClampNeg) (G.2.2.2.2.2 (e + 3).toNatClampNeg)).1.up (by omega)) ((am_m hM (G.2.2.2.2.2 (e + 1).toNatClampNeg) (G.2.2.2.2.2 (e + 2).toNatClampNeg) (G.2.2.2.2.2 (e + 3).toNatClampNeg)).1.up (by omega)) ((am_tie hT hV hM (G.2.2.2.2.2 (e + 1).toNatClampNeg) (G.2.2.2.2.2 (e + 2).toNatClampNeg) (G.2.2.2.2.2 (e + 3).toNatClampNeg)).2.eta.up (by omega)) (r_am hR (G.2.2.2.2.2 (e + 1).toNatClampNeg) (G.2.2.2.2.2 (e + 2).toNatClampNeg) (G.2.2.2.2.2 (e + 3).toNatClampNeg)) (by omega) (by omega)
theorem lw_case4 (hX : NX l G e n (t + 12000)) (hS : HS N (I, J, V, ls) A B h) (hV : CV N I ls t) (hM : MV A t) (hT : TX N (I, J, V, ls) (A, B) t) (hR : R11 I) (hkc : n + 1 ≤ kc) (hks : 10 * (n + 1) ≤ ks) (ht0 : 0 ≤ t) (ht : t + 12000 < 9000000) (hsc : ∀ c : Int32, 1 ≤ c.toInt → c.toInt ≤ 5 → vp_in (e + c) G.2.2.2.2.1) : x_X l G mL_law 9 kc ks nkL (fun r _ => r = some (xI 1)) 296 [some (xS G.2.2.2.1.2), some (xR (some (5, 0))), some (xR (some (14, 0))), some (xI e)] [] h := by
  obtain ⟨P, rfl, hQ, hP2⟩ := hS.out
  have hc := hM.1.1
  have hTT : Tie nE N I J V ls A B := hT.1
  refine x_aload_n 297 dL_law_296 rfl rfl ?_
  refine x_aload_n 298 dL_law_297 rfl rfl ?_
  refine x_iload_n 299 dL_law_298 rfl rfl ?_
  refine x_iconst 1 300 dL_law_299 rfl rfl ?_
  refine x_iadd 301 dL_law_300 rfl ?_
  refine x_sld 302 dL_law_301 rfl (hsc 1 (by decide) (by decide)) ?_
  refine x_gVv 305 (cC_open hS hV (by omega) (G.2.2.2.2.2 (e + 1).toNatClampNeg)) kL_32 oC_open rfl rfl dL_law_302 rfl rfl (by decide) (Nat.le_of_ble_eq_true rfl) (fun h1 hq => ?_)
  obtain ⟨P, rfl, hQ, hP2⟩ := hq
  refine x_pop 306 dL_law_305 rfl rfl ?_
  refine x_aload_n 307 dL_law_306 rfl rfl ?_
  refine x_aload_n 308 dL_law_307 rfl rfl ?_
  refine x_iload_n 309 dL_law_308 rfl rfl ?_
  refine x_iconst 1 310 dL_law_309 rfl rfl ?_
  refine x_iadd 311 dL_law_310 rfl ?_
  refine x_sld 312 dL_law_311 rfl (hsc 1 (by decide) (by decide)) ?_
  refine x_fVv 315 (cR_open hM.1 (G.2.2.2.2.2 (e + 1).toNatClampNeg) 12000 (by have := hM.2.2; omega) (op_m hM (by omega) (G.2.2.2.2.2 (e + 1).toNatClampNeg)).1) kL_36 oR_open rfl rfl dL_law_312 rfl rfl (by decide) (Nat.le_of_ble_eq_true rfl) ?_
  refine x_pop 316 dL_law_315 rfl rfl ?_
  refine x_goto 681 dL_law_316 (by decide) ?_
  exact hX N (opS I J V ls (G.2.2.2.2.2 (e + 1).toNatClampNeg)).2.1 (opS I J V ls (G.2.2.2.2.2 (e + 1).toNatClampNeg)).2.2.1 (opS I J V ls (G.2.2.2.2.2 (e + 1).toNatClampNeg)).2.2.2.1 (opS I J V ls (G.2.2.2.2.2 (e + 1).toNatClampNeg)).2.2.2.2 (opM 12000 A B (G.2.2.2.2.2 (e + 1).toNatClampNeg)).2.1 (opM 12000 A B (G.2.2.2.2.2 (e + 1).toNatClampNeg)).2.2 _ kc ks ⟨P, rfl, hQ, hP2⟩ ((op_ok hV (by omega) (G.2.2.2.2.2 (e + 1).toNatClampNeg)).1.up (by omega)) (op_m hM (by omega) (G.2.2.2.2.2 (e + 1).toNatClampNeg)).2.1 ((op_tie hT hV hM hR ht0 ht (G.2.2.2.2.2 (e + 1).toNatClampNeg)).2.eta) (r_op hR (G.2.2.2.2.2 (e + 1).toNatClampNeg)) (by omega) (by omega)
theorem lw_case5 (hX : NX l G e n (t + 12000)) (hS : HS N (I, J, V, ls) A B h) (hV : CV N I ls t) (hM : MV A t) (hT : TX N (I, J, V, ls) (A, B) t) (hR : R11 I) (hkc : n + 1 ≤ kc) (hks : 10 * (n + 1) ≤ ks) (ht0 : 0 ≤ t) (ht : t + 12000 < 9000000) (hsc : ∀ c : Int32, 1 ≤ c.toInt → c.toInt ≤ 5 → vp_in (e + c) G.2.2.2.2.1) : x_X l G mL_law 9 kc ks nkL (fun r _ => r = some (xI 1)) 319 [some (xS G.2.2.2.1.2), some (xR (some (5, 0))), some (xR (some (14, 0))), some (xI e)] [] h := by
  obtain ⟨P, rfl, hQ, hP2⟩ := hS.out
  have hc := hM.1.1
  have hTT : Tie nE N I J V ls A B := hT.1
  refine x_aload_n 320 dL_law_319 rfl rfl ?_
  refine x_aload_n 321 dL_law_320 rfl rfl ?_
  refine x_iload_n 322 dL_law_321 rfl rfl ?_
  refine x_iconst 1 323 dL_law_322 rfl rfl ?_
  refine x_iadd 324 dL_law_323 rfl ?_
  refine x_sld 325 dL_law_324 rfl (hsc 1 (by decide) (by decide)) ?_
  refine x_gVv 328 (cC_close hS (G.2.2.2.2.2 (e + 1).toNatClampNeg)) kL_37 oC_close rfl rfl dL_law_325 rfl rfl (by decide) (Nat.le_of_ble_eq_true rfl) (fun h1 hq => ?_)
  obtain ⟨P, rfl, hQ, hP2⟩ := hq
  refine x_pop 329 dL_law_328 rfl rfl ?_
  refine x_aload_n 330 dL_law_329 rfl rfl ?_
  refine x_aload_n 331 dL_law_330 rfl rfl ?_
  refine x_iload_n 332 dL_law_331 rfl rfl ?_
  refine x_iconst 1 333 dL_law_332 rfl rfl ?_
  refine x_iadd 334 dL_law_333 rfl ?_
  refine x_sld 335 dL_law_334 rfl (hsc 1 (by decide) (by decide)) ?_
  refine x_fVv 338 (cR_close (G.2.2.2.2.2 (e + 1).toNatClampNeg)) kL_40 oR_close rfl rfl dL_law_335 rfl rfl (by decide) (Nat.le_of_ble_eq_true rfl) ?_
  refine x_pop 339 dL_law_338 rfl rfl ?_
  refine x_goto 681 dL_law_339 (by decide) ?_
  exact hX N (clS I J V ls (G.2.2.2.2.2 (e + 1).toNatClampNeg)).2.1 (clS I J V ls (G.2.2.2.2.2 (e + 1).toNatClampNeg)).2.2.1 (clS I J V ls (G.2.2.2.2.2 (e + 1).toNatClampNeg)).2.2.2.1 (clS I J V ls (G.2.2.2.2.2 (e + 1).toNatClampNeg)).2.2.2.2 (clM A B (G.2.2.2.2.2 (e + 1).toNatClampNeg)).2.1 (clM A B (G.2.2.2.2.2 (e + 1).toNatClampNeg)).2.2 _ kc ks ⟨P, rfl, hQ, hP2⟩ ((cl_ok hV (G.2.2.2.2.2 (e + 1).toNatClampNeg)).up (by omega)) ((cl_m hM (G.2.2.2.2.2 (e + 1).toNatClampNeg)).up (by omega)) ((cl_tie hT (G.2.2.2.2.2 (e + 1).toNatClampNeg)).2.eta.up (by omega)) (r_cl hR (G.2.2.2.2.2 (e + 1).toNatClampNeg)) (by omega) (by omega)
theorem lw_case6 (hX : NX l G e n (t + 12000)) (hS : HS N (I, J, V, ls) A B h) (hV : CV N I ls t) (hM : MV A t) (hT : TX N (I, J, V, ls) (A, B) t) (hR : R11 I) (hkc : n + 1 ≤ kc) (hks : 10 * (n + 1) ≤ ks) (ht0 : 0 ≤ t) (ht : t + 12000 < 9000000) (hsc : ∀ c : Int32, 1 ≤ c.toInt → c.toInt ≤ 5 → vp_in (e + c) G.2.2.2.2.1) : x_X l G mL_law 9 kc ks nkL (fun r _ => r = some (xI 1)) 342 [some (xS G.2.2.2.1.2), some (xR (some (5, 0))), some (xR (some (14, 0))), some (xI e)] [] h := by
  obtain ⟨P, rfl, hQ, hP2⟩ := hS.out
  have hc := hM.1.1
  have hTT : Tie nE N I J V ls A B := hT.1
  refine x_aload_n 343 dL_law_342 rfl rfl ?_
  refine x_aload_n 344 dL_law_343 rfl rfl ?_
  refine x_iload_n 345 dL_law_344 rfl rfl ?_
  refine x_iconst 1 346 dL_law_345 rfl rfl ?_
  refine x_iadd 347 dL_law_346 rfl ?_
  refine x_sld 348 dL_law_347 rfl (hsc 1 (by decide) (by decide)) ?_
  refine x_aload_n 349 dL_law_348 rfl rfl ?_
  refine x_iload_n 350 dL_law_349 rfl rfl ?_
  refine x_iconst 2 351 dL_law_350 rfl rfl ?_
  refine x_iadd 352 dL_law_351 rfl ?_
  refine x_sld 353 dL_law_352 rfl (hsc 2 (by decide) (by decide)) ?_
  refine x_gVv 356 (cC_indication hS hV (G.2.2.2.2.2 (e + 1).toNatClampNeg) (G.2.2.2.2.2 (e + 2).toNatClampNeg)) kL_41 oC_indication rfl rfl dL_law_353 rfl rfl (by decide) (Nat.le_of_ble_eq_true rfl) (fun h1 hq => ?_)
  obtain ⟨P, rfl, hQ, hP2⟩ := hq
  refine x_pop 357 dL_law_356 rfl rfl ?_
  refine x_aload_n 358 dL_law_357 rfl rfl ?_
  refine x_aload_n 359 dL_law_358 rfl rfl ?_
  refine x_iload_n 360 dL_law_359 rfl rfl ?_
  refine x_iconst 1 361 dL_law_360 rfl rfl ?_
  refine x_iadd 362 dL_law_361 rfl ?_
  refine x_sld 363 dL_law_362 rfl (hsc 1 (by decide) (by decide)) ?_
  refine x_aload_n 364 dL_law_363 rfl rfl ?_
  refine x_iload_n 365 dL_law_364 rfl rfl ?_
  refine x_iconst 2 366 dL_law_365 rfl rfl ?_
  refine x_iadd 367 dL_law_366 rfl ?_
  refine x_sld 368 dL_law_367 rfl (hsc 2 (by decide) (by decide)) ?_
  refine x_fVv 371 (cR_indication hc (G.2.2.2.2.2 (e + 1).toNatClampNeg) (G.2.2.2.2.2 (e + 2).toNatClampNeg)) kL_45 oR_indication rfl rfl dL_law_368 rfl rfl (by decide) (Nat.le_of_ble_eq_true rfl) ?_
  refine x_pop 372 dL_law_371 rfl rfl ?_
  refine x_goto 681 dL_law_372 (by decide) ?_
  exact hX N (inS I J V ls (G.2.2.2.2.2 (e + 1).toNatClampNeg) (G.2.2.2.2.2 (e + 2).toNatClampNeg)).2.1 (inS I J V ls (G.2.2.2.2.2 (e + 1).toNatClampNeg) (G.2.2.2.2.2 (e + 2).toNatClampNeg)).2.2.1 (inS I J V ls (G.2.2.2.2.2 (e + 1).toNatClampNeg) (G.2.2.2.2.2 (e + 2).toNatClampNeg)).2.2.2.1 (inS I J V ls (G.2.2.2.2.2 (e + 1).toNatClampNeg) (G.2.2.2.2.2 (e + 2).toNatClampNeg)).2.2.2.2 (inM A B (G.2.2.2.2.2 (e + 1).toNatClampNeg) (G.2.2.2.2.2 (e + 2).toNatClampNeg)).2.1 (inM A B (G.2.2.2.2.2 (e + 1).toNatClampNeg) (G.2.2.2.2.2 (e + 2).toNatClampNeg)).2.2 _ kc ks ⟨P, rfl, hQ, hP2⟩ ((in_ok hV (G.2.2.2.2.2 (e + 1).toNatClampNeg) (G.2.2.2.2.2 (e + 2).toNatClampNeg)).1.up (by omega)) ((in_m hM (G.2.2.2.2.2 (e + 1).toNatClampNeg) (G.2.2.2.2.2 (e + 2).toNatClampNeg)).1.up (by omega)) ((in_tie hT (G.2.2.2.2.2 (e + 1).toNatClampNeg) (G.2.2.2.2.2 (e + 2).toNatClampNeg)).eta.up (by omega)) (r_in hR (G.2.2.2.2.2 (e + 1).toNatClampNeg) (G.2.2.2.2.2 (e + 2).toNatClampNeg)) (by omega) (by omega)
theorem lw_case7 (hX : NX l G e n (t + 12000)) (hS : HS N (I, J, V, ls) A B h) (hV : CV N I ls t) (hM : MV A t) (hT : TX N (I, J, V, ls) (A, B) t) (hR : R11 I) (hkc : n + 1 ≤ kc) (hks : 10 * (n + 1) ≤ ks) (ht0 : 0 ≤ t) (ht : t + 12000 < 9000000) (hsc : ∀ c : Int32, 1 ≤ c.toInt → c.toInt ≤ 5 → vp_in (e + c) G.2.2.2.2.1) : x_X l G mL_law 9 kc ks nkL (fun r _ => r = some (xI 1)) 375 [some (xS G.2.2.2.1.2), some (xR (some (5, 0))), some (xR (some (14, 0))), some (xI e)] [] h := by
  obtain ⟨P, rfl, hQ, hP2⟩ := hS.out
  have hc := hM.1.1
  have hTT : Tie nE N I J V ls A B := hT.1
  refine x_aload_n 376 dL_law_375 rfl rfl ?_
  refine x_aload_n 377 dL_law_376 rfl rfl ?_
  refine x_iload_n 378 dL_law_377 rfl rfl ?_
  refine x_iconst 1 379 dL_law_378 rfl rfl ?_
  refine x_iadd 380 dL_law_379 rfl ?_
  refine x_sld 381 dL_law_380 rfl (hsc 1 (by decide) (by decide)) ?_
  refine x_aload_n 382 dL_law_381 rfl rfl ?_
  refine x_iload_n 383 dL_law_382 rfl rfl ?_
  refine x_iconst 2 384 dL_law_383 rfl rfl ?_
  refine x_iadd 385 dL_law_384 rfl ?_
  refine x_sld 386 dL_law_385 rfl (hsc 2 (by decide) (by decide)) ?_
  refine x_fVv 389 (cC_best hS (G.2.2.2.2.2 (e + 1).toNatClampNeg) (G.2.2.2.2.2 (e + 2).toNatClampNeg)) kL_46 oC_best rfl rfl dL_law_386 rfl rfl (by decide) (Nat.le_of_ble_eq_true rfl) ?_
  refine x_pop 390 dL_law_389 rfl rfl ?_
  refine x_aload_n 391 dL_law_390 rfl rfl ?_
  refine x_aload_n 392 dL_law_391 rfl rfl ?_
  refine x_iload_n 393 dL_law_392 rfl rfl ?_
  refine x_iconst 1 394 dL_law_393 rfl rfl ?_
  refine x_iadd 395 dL_law_394 rfl ?_
  refine x_sld 396 dL_law_395 rfl (hsc 1 (by decide) (by decide)) ?_
  refine x_aload_n 397 dL_law_396 rfl rfl ?_
  refine x_iload_n 398 dL_law_397 rfl rfl ?_
  refine x_iconst 2 399 dL_law_398 rfl rfl ?_
  refine x_iadd 400 dL_law_399 rfl ?_
  refine x_sld 401 dL_law_400 rfl (hsc 2 (by decide) (by decide)) ?_
  refine x_fVv 404 (cR_best hc (G.2.2.2.2.2 (e + 1).toNatClampNeg) (G.2.2.2.2.2 (e + 2).toNatClampNeg)) kL_49 oR_best rfl rfl dL_law_401 rfl rfl (by decide) (Nat.le_of_ble_eq_true rfl) ?_
  refine x_pop 405 dL_law_404 rfl rfl ?_
  refine x_goto 681 dL_law_405 (by decide) ?_
  exact hX N I J V ls A B _ kc ks ⟨P, rfl, hQ, hP2⟩ (hV.up (by omega)) (hM.up (by omega)) (hT.up (by omega)) hR (by omega) (by omega)
theorem lw_case8 (hX : NX l G e n (t + 12000)) (hS : HS N (I, J, V, ls) A B h) (hV : CV N I ls t) (hM : MV A t) (hT : TX N (I, J, V, ls) (A, B) t) (hR : R11 I) (hkc : n + 1 ≤ kc) (hks : 10 * (n + 1) ≤ ks) (ht0 : 0 ≤ t) (ht : t + 12000 < 9000000) (hsc : ∀ c : Int32, 1 ≤ c.toInt → c.toInt ≤ 5 → vp_in (e + c) G.2.2.2.2.1) : x_X l G mL_law 9 kc ks nkL (fun r _ => r = some (xI 1)) 408 [some (xS G.2.2.2.1.2), some (xR (some (5, 0))), some (xR (some (14, 0))), some (xI e)] [] h := by
  obtain ⟨P, rfl, hQ, hP2⟩ := hS.out
  have hc := hM.1.1
  have hTT : Tie nE N I J V ls A B := hT.1
  refine x_aload_n 409 dL_law_408 rfl rfl ?_
  refine x_aload_n 410 dL_law_409 rfl rfl ?_
  refine x_iload_n 411 dL_law_410 rfl rfl ?_
  refine x_iconst 1 412 dL_law_411 rfl rfl ?_
  refine x_iadd 413 dL_law_412 rfl ?_
  refine x_sld 414 dL_law_413 rfl (hsc 1 (by decide) (by decide)) ?_
  refine x_aload_n 415 dL_law_414 rfl rfl ?_
  refine x_iload_n 416 dL_law_415 rfl rfl ?_
  refine x_iconst 2 417 dL_law_416 rfl rfl ?_
  refine x_iadd 418 dL_law_417 rfl ?_
  refine x_sld 419 dL_law_418 rfl (hsc 2 (by decide) (by decide)) ?_
  refine x_aload_n 420 dL_law_419 rfl rfl ?_
  refine x_iload_n 421 dL_law_420 rfl rfl ?_
  refine x_iconst 3 422 dL_law_421 rfl rfl ?_
  refine x_iadd 423 dL_law_422 rfl ?_
  refine x_sld 424 dL_law_423 rfl (hsc 3 (by decide) (by decide)) ?_
  refine x_fVv 427 (cC_depth hS (G.2.2.2.2.2 (e + 1).toNatClampNeg) (G.2.2.2.2.2 (e + 2).toNatClampNeg) (G.2.2.2.2.2 (e + 3).toNatClampNeg)) kL_50 oC_depth rfl rfl dL_law_424 rfl rfl (by decide) (Nat.le_of_ble_eq_true rfl) ?_
  refine x_pop 428 dL_law_427 rfl rfl ?_
  refine x_aload_n 429 dL_law_428 rfl rfl ?_
  refine x_aload_n 430 dL_law_429 rfl rfl ?_
  refine x_iload_n 431 dL_law_430 rfl rfl ?_
  refine x_iconst 1 432 dL_law_431 rfl rfl ?_
  refine x_iadd 433 dL_law_432 rfl ?_
  refine x_sld 434 dL_law_433 rfl (hsc 1 (by decide) (by decide)) ?_
  refine x_aload_n 435 dL_law_434 rfl rfl ?_
  refine x_iload_n 436 dL_law_435 rfl rfl ?_
  refine x_iconst 2 437 dL_law_436 rfl rfl ?_
  refine x_iadd 438 dL_law_437 rfl ?_
  refine x_sld 439 dL_law_438 rfl (hsc 2 (by decide) (by decide)) ?_
  refine x_aload_n 440 dL_law_439 rfl rfl ?_
  refine x_iload_n 441 dL_law_440 rfl rfl ?_
  refine x_iconst 3 442 dL_law_441 rfl rfl ?_
  refine x_iadd 443 dL_law_442 rfl ?_
  refine x_sld 444 dL_law_443 rfl (hsc 3 (by decide) (by decide)) ?_
  refine x_fVv 447 (cR_depth hc (G.2.2.2.2.2 (e + 1).toNatClampNeg) (G.2.2.2.2.2 (e + 2).toNatClampNeg) (G.2.2.2.2.2 (e + 3).toNatClampNeg)) kL_53 oR_depth rfl rfl dL_law_444 rfl rfl (by decide) (Nat.le_of_ble_eq_true rfl) ?_
  refine x_pop 448 dL_law_447 rfl rfl ?_
  refine x_goto 681 dL_law_448 (by decide) ?_
  exact hX N I J V ls A B _ kc ks ⟨P, rfl, hQ, hP2⟩ (hV.up (by omega)) (hM.up (by omega)) (hT.up (by omega)) hR (by omega) (by omega)
theorem lw_case9 (hX : NX l G e n (t + 12000)) (hS : HS N (I, J, V, ls) A B h) (hV : CV N I ls t) (hM : MV A t) (hT : TX N (I, J, V, ls) (A, B) t) (hR : R11 I) (hkc : n + 1 ≤ kc) (hks : 10 * (n + 1) ≤ ks) (ht0 : 0 ≤ t) (ht : t + 12000 < 9000000) (hsc : ∀ c : Int32, 1 ≤ c.toInt → c.toInt ≤ 5 → vp_in (e + c) G.2.2.2.2.1) : x_X l G mL_law 9 kc ks nkL (fun r _ => r = some (xI 1)) 451 [some (xS G.2.2.2.1.2), some (xR (some (5, 0))), some (xR (some (14, 0))), some (xI e)] [] h := by
  obtain ⟨P, rfl, hQ, hP2⟩ := hS.out
  have hc := hM.1.1
  have hTT : Tie nE N I J V ls A B := hT.1
  refine x_aload_n 452 dL_law_451 rfl rfl ?_
  refine x_aload_n 453 dL_law_452 rfl rfl ?_
  refine x_iload_n 454 dL_law_453 rfl rfl ?_
  refine x_iconst 1 455 dL_law_454 rfl rfl ?_
  refine x_iadd 456 dL_law_455 rfl ?_
  refine x_sld 457 dL_law_456 rfl (hsc 1 (by decide) (by decide)) ?_
  refine x_fVv 460 (cC_ahead hS hV (G.2.2.2.2.2 (e + 1).toNatClampNeg)) kL_54 oC_ahead rfl rfl dL_law_457 rfl rfl (by decide) (Nat.le_of_ble_eq_true rfl) ?_
  refine x_pop 461 dL_law_460 rfl rfl ?_
  refine x_aload_n 462 dL_law_461 rfl rfl ?_
  refine x_aload_n 463 dL_law_462 rfl rfl ?_
  refine x_iload_n 464 dL_law_463 rfl rfl ?_
  refine x_iconst 1 465 dL_law_464 rfl rfl ?_
  refine x_iadd 466 dL_law_465 rfl ?_
  refine x_sld 467 dL_law_466 rfl (hsc 1 (by decide) (by decide)) ?_
  refine x_fVv 470 (cR_ahead hc (G.2.2.2.2.2 (e + 1).toNatClampNeg)) kL_57 oR_ahead rfl rfl dL_law_467 rfl rfl (by decide) (Nat.le_of_ble_eq_true rfl) ?_
  refine x_pop 471 dL_law_470 rfl rfl ?_
  refine x_goto 681 dL_law_471 (by decide) ?_
  exact hX N I J V ls A B _ kc ks ⟨P, rfl, hQ, hP2⟩ (hV.up (by omega)) (hM.up (by omega)) (hT.up (by omega)) hR (by omega) (by omega)
theorem lw_case10 (hX : NX l G e n (t + 12000)) (hS : HS N (I, J, V, ls) A B h) (hV : CV N I ls t) (hM : MV A t) (hT : TX N (I, J, V, ls) (A, B) t) (hR : R11 I) (hkc : n + 1 ≤ kc) (hks : 10 * (n + 1) ≤ ks) (ht0 : 0 ≤ t) (ht : t + 12000 < 9000000) (hsc : ∀ c : Int32, 1 ≤ c.toInt → c.toInt ≤ 5 → vp_in (e + c) G.2.2.2.2.1) : x_X l G mL_law 9 kc ks nkL (fun r _ => r = some (xI 1)) 474 [some (xS G.2.2.2.1.2), some (xR (some (5, 0))), some (xR (some (14, 0))), some (xI e)] [] h := by
  obtain ⟨P, rfl, hQ, hP2⟩ := hS.out
  have hc := hM.1.1
  have hTT : Tie nE N I J V ls A B := hT.1
  refine x_aload_n 475 dL_law_474 rfl rfl ?_
  refine x_aload_n 476 dL_law_475 rfl rfl ?_
  refine x_iload_n 477 dL_law_476 rfl rfl ?_
  refine x_iconst 1 478 dL_law_477 rfl rfl ?_
  refine x_iadd 479 dL_law_478 rfl ?_
  refine x_sld 480 dL_law_479 rfl (hsc 1 (by decide) (by decide)) ?_
  refine x_fVv 483 (cC_left hS hV (G.2.2.2.2.2 (e + 1).toNatClampNeg)) kL_58 oC_left rfl rfl dL_law_480 rfl rfl (by decide) (Nat.le_of_ble_eq_true rfl) ?_
  refine x_pop 484 dL_law_483 rfl rfl ?_
  refine x_aload_n 485 dL_law_484 rfl rfl ?_
  refine x_aload_n 486 dL_law_485 rfl rfl ?_
  refine x_iload_n 487 dL_law_486 rfl rfl ?_
  refine x_iconst 1 488 dL_law_487 rfl rfl ?_
  refine x_iadd 489 dL_law_488 rfl ?_
  refine x_sld 490 dL_law_489 rfl (hsc 1 (by decide) (by decide)) ?_
  refine x_fVv 493 (cR_left hc (G.2.2.2.2.2 (e + 1).toNatClampNeg)) kL_61 oR_left rfl rfl dL_law_490 rfl rfl (by decide) (Nat.le_of_ble_eq_true rfl) ?_
  refine x_pop 494 dL_law_493 rfl rfl ?_
  refine x_goto 681 dL_law_494 (by decide) ?_
  exact hX N I J V ls A B _ kc ks ⟨P, rfl, hQ, hP2⟩ (hV.up (by omega)) (hM.up (by omega)) (hT.up (by omega)) hR (by omega) (by omega)
theorem lw_case11 (hX : NX l G e n (t + 12000)) (hS : HS N (I, J, V, ls) A B h) (hV : CV N I ls t) (hM : MV A t) (hT : TX N (I, J, V, ls) (A, B) t) (hR : R11 I) (hkc : n + 1 ≤ kc) (hks : 10 * (n + 1) ≤ ks) (ht0 : 0 ≤ t) (ht : t + 12000 < 9000000) (hsc : ∀ c : Int32, 1 ≤ c.toInt → c.toInt ≤ 5 → vp_in (e + c) G.2.2.2.2.1) : x_X l G mL_law 9 kc ks nkL (fun r _ => r = some (xI 1)) 497 [some (xS G.2.2.2.1.2), some (xR (some (5, 0))), some (xR (some (14, 0))), some (xI e)] [] h := by
  obtain ⟨P, rfl, hQ, hP2⟩ := hS.out
  have hc := hM.1.1
  have hTT : Tie nE N I J V ls A B := hT.1
  refine x_aload_n 498 dL_law_497 rfl rfl ?_
  refine x_aload_n 499 dL_law_498 rfl rfl ?_
  refine x_iload_n 500 dL_law_499 rfl rfl ?_
  refine x_iconst 1 501 dL_law_500 rfl rfl ?_
  refine x_iadd 502 dL_law_501 rfl ?_
  refine x_sld 503 dL_law_502 rfl (hsc 1 (by decide) (by decide)) ?_
  refine x_fVv 506 (cC_state hS hV (G.2.2.2.2.2 (e + 1).toNatClampNeg)) kL_62 oC_state rfl rfl dL_law_503 rfl rfl (by decide) (Nat.le_of_ble_eq_true rfl) ?_
  refine x_pop 507 dL_law_506 rfl rfl ?_
  refine x_aload_n 508 dL_law_507 rfl rfl ?_
  refine x_aload_n 509 dL_law_508 rfl rfl ?_
  refine x_iload_n 510 dL_law_509 rfl rfl ?_
  refine x_iconst 1 511 dL_law_510 rfl rfl ?_
  refine x_iadd 512 dL_law_511 rfl ?_
  refine x_sld 513 dL_law_512 rfl (hsc 1 (by decide) (by decide)) ?_
  refine x_fVv 516 (cR_state hc (G.2.2.2.2.2 (e + 1).toNatClampNeg)) kL_65 oR_state rfl rfl dL_law_513 rfl rfl (by decide) (Nat.le_of_ble_eq_true rfl) ?_
  refine x_pop 517 dL_law_516 rfl rfl ?_
  refine x_goto 681 dL_law_517 (by decide) ?_
  exact hX N I J V ls A B _ kc ks ⟨P, rfl, hQ, hP2⟩ (hV.up (by omega)) (hM.up (by omega)) (hT.up (by omega)) hR (by omega) (by omega)
theorem lw_case12 (hX : NX l G e n (t + 12000)) (hS : HS N (I, J, V, ls) A B h) (hV : CV N I ls t) (hM : MV A t) (hT : TX N (I, J, V, ls) (A, B) t) (hR : R11 I) (hkc : n + 1 ≤ kc) (hks : 10 * (n + 1) ≤ ks) (ht0 : 0 ≤ t) (ht : t + 12000 < 9000000) (hsc : ∀ c : Int32, 1 ≤ c.toInt → c.toInt ≤ 5 → vp_in (e + c) G.2.2.2.2.1) : x_X l G mL_law 9 kc ks nkL (fun r _ => r = some (xI 1)) 520 [some (xS G.2.2.2.1.2), some (xR (some (5, 0))), some (xR (some (14, 0))), some (xI e)] [] h := by
  obtain ⟨P, rfl, hQ, hP2⟩ := hS.out
  have hc := hM.1.1
  have hTT : Tie nE N I J V ls A B := hT.1
  refine x_aload_n 521 dL_law_520 rfl rfl ?_
  refine x_fVv 524 (cC_trades hS) kL_66 oC_trades rfl rfl dL_law_521 rfl rfl (by decide) (Nat.le_of_ble_eq_true rfl) ?_
  refine x_pop 525 dL_law_524 rfl rfl ?_
  refine x_aload_n 526 dL_law_525 rfl rfl ?_
  refine x_fVv 529 (cR_trades) kL_70 oR_trades rfl rfl dL_law_526 rfl rfl (by decide) (Nat.le_of_ble_eq_true rfl) ?_
  refine x_pop 530 dL_law_529 rfl rfl ?_
  refine x_goto 681 dL_law_530 (by decide) ?_
  exact hX N I J V ls A B _ kc ks ⟨P, rfl, hQ, hP2⟩ (hV.up (by omega)) (hM.up (by omega)) (hT.up (by omega)) hR (by omega) (by omega)
theorem lw_case13 (hX : NX l G e n (t + 12000)) (hS : HS N (I, J, V, ls) A B h) (hV : CV N I ls t) (hM : MV A t) (hT : TX N (I, J, V, ls) (A, B) t) (hR : R11 I) (hkc : n + 1 ≤ kc) (hks : 10 * (n + 1) ≤ ks) (ht0 : 0 ≤ t) (ht : t + 12000 < 9000000) (hsc : ∀ c : Int32, 1 ≤ c.toInt → c.toInt ≤ 5 → vp_in (e + c) G.2.2.2.2.1) : x_X l G mL_law 9 kc ks nkL (fun r _ => r = some (xI 1)) 533 [some (xS G.2.2.2.1.2), some (xR (some (5, 0))), some (xR (some (14, 0))), some (xI e)] [] h := by
  obtain ⟨P, rfl, hQ, hP2⟩ := hS.out
  have hc := hM.1.1
  have hTT : Tie nE N I J V ls A B := hT.1
  refine x_aload_n 534 dL_law_533 rfl rfl ?_
  refine x_aload_n 535 dL_law_534 rfl rfl ?_
  refine x_iload_n 536 dL_law_535 rfl rfl ?_
  refine x_iconst 1 537 dL_law_536 rfl rfl ?_
  refine x_iadd 538 dL_law_537 rfl ?_
  refine x_sld 539 dL_law_538 rfl (hsc 1 (by decide) (by decide)) ?_
  refine x_aload_n 540 dL_law_539 rfl rfl ?_
  refine x_iload_n 541 dL_law_540 rfl rfl ?_
  refine x_iconst 2 542 dL_law_541 rfl rfl ?_
  refine x_iadd 543 dL_law_542 rfl ?_
  refine x_sld 544 dL_law_543 rfl (hsc 2 (by decide) (by decide)) ?_
  refine x_fVv 547 (cC_trade hS (G.2.2.2.2.2 (e + 1).toNatClampNeg) (G.2.2.2.2.2 (e + 2).toNatClampNeg)) kL_71 oC_trade rfl rfl dL_law_544 rfl rfl (by decide) (Nat.le_of_ble_eq_true rfl) ?_
  refine x_pop 548 dL_law_547 rfl rfl ?_
  refine x_aload_n 549 dL_law_548 rfl rfl ?_
  refine x_aload_n 550 dL_law_549 rfl rfl ?_
  refine x_iload_n 551 dL_law_550 rfl rfl ?_
  refine x_iconst 1 552 dL_law_551 rfl rfl ?_
  refine x_iadd 553 dL_law_552 rfl ?_
  refine x_sld 554 dL_law_553 rfl (hsc 1 (by decide) (by decide)) ?_
  refine x_aload_n 555 dL_law_554 rfl rfl ?_
  refine x_iload_n 556 dL_law_555 rfl rfl ?_
  refine x_iconst 2 557 dL_law_556 rfl rfl ?_
  refine x_iadd 558 dL_law_557 rfl ?_
  refine x_sld 559 dL_law_558 rfl (hsc 2 (by decide) (by decide)) ?_
  refine x_fVv 562 (cR_trade (G.2.2.2.2.2 (e + 1).toNatClampNeg) (G.2.2.2.2.2 (e + 2).toNatClampNeg)) kL_74 oR_trade rfl rfl dL_law_559 rfl rfl (by decide) (Nat.le_of_ble_eq_true rfl) ?_
  refine x_pop 563 dL_law_562 rfl rfl ?_
  refine x_goto 681 dL_law_563 (by decide) ?_
  exact hX N I J V ls A B _ kc ks ⟨P, rfl, hQ, hP2⟩ (hV.up (by omega)) (hM.up (by omega)) (hT.up (by omega)) hR (by omega) (by omega)
theorem lw_case14 (hX : NX l G e n (t + 12000)) (hS : HS N (I, J, V, ls) A B h) (hV : CV N I ls t) (hM : MV A t) (hT : TX N (I, J, V, ls) (A, B) t) (hR : R11 I) (hkc : n + 1 ≤ kc) (hks : 10 * (n + 1) ≤ ks) (ht0 : 0 ≤ t) (ht : t + 12000 < 9000000) (hsc : ∀ c : Int32, 1 ≤ c.toInt → c.toInt ≤ 5 → vp_in (e + c) G.2.2.2.2.1) : x_X l G mL_law 9 kc ks nkL (fun r _ => r = some (xI 1)) 566 [some (xS G.2.2.2.1.2), some (xR (some (5, 0))), some (xR (some (14, 0))), some (xI e)] [] h := by
  obtain ⟨P, rfl, hQ, hP2⟩ := hS.out
  have hc := hM.1.1
  have hTT : Tie nE N I J V ls A B := hT.1
  refine x_aload_n 567 dL_law_566 rfl rfl ?_
  refine x_aload_n 568 dL_law_567 rfl rfl ?_
  refine x_iload_n 569 dL_law_568 rfl rfl ?_
  refine x_iconst 1 570 dL_law_569 rfl rfl ?_
  refine x_iadd 571 dL_law_570 rfl ?_
  refine x_sld 572 dL_law_571 rfl (hsc 1 (by decide) (by decide)) ?_
  refine x_aload_n 573 dL_law_572 rfl rfl ?_
  refine x_iload_n 574 dL_law_573 rfl rfl ?_
  refine x_iconst 2 575 dL_law_574 rfl rfl ?_
  refine x_iadd 576 dL_law_575 rfl ?_
  refine x_sld 577 dL_law_576 rfl (hsc 2 (by decide) (by decide)) ?_
  refine x_fVv 580 (cC_position hS (G.2.2.2.2.2 (e + 1).toNatClampNeg) (G.2.2.2.2.2 (e + 2).toNatClampNeg)) kL_75 oC_position rfl rfl dL_law_577 rfl rfl (by decide) (Nat.le_of_ble_eq_true rfl) ?_
  refine x_pop 581 dL_law_580 rfl rfl ?_
  refine x_aload_n 582 dL_law_581 rfl rfl ?_
  refine x_aload_n 583 dL_law_582 rfl rfl ?_
  refine x_iload_n 584 dL_law_583 rfl rfl ?_
  refine x_iconst 1 585 dL_law_584 rfl rfl ?_
  refine x_iadd 586 dL_law_585 rfl ?_
  refine x_sld 587 dL_law_586 rfl (hsc 1 (by decide) (by decide)) ?_
  refine x_aload_n 588 dL_law_587 rfl rfl ?_
  refine x_iload_n 589 dL_law_588 rfl rfl ?_
  refine x_iconst 2 590 dL_law_589 rfl rfl ?_
  refine x_iadd 591 dL_law_590 rfl ?_
  refine x_sld 592 dL_law_591 rfl (hsc 2 (by decide) (by decide)) ?_
  refine x_fVv 595 (cR_position (G.2.2.2.2.2 (e + 1).toNatClampNeg) (G.2.2.2.2.2 (e + 2).toNatClampNeg)) kL_78 oR_position rfl rfl dL_law_592 rfl rfl (by decide) (Nat.le_of_ble_eq_true rfl) ?_
  refine x_pop 596 dL_law_595 rfl rfl ?_
  refine x_goto 681 dL_law_596 (by decide) ?_
  exact hX N I J V ls A B _ kc ks ⟨P, rfl, hQ, hP2⟩ (hV.up (by omega)) (hM.up (by omega)) (hT.up (by omega)) hR (by omega) (by omega)
theorem lw_case15 (hX : NX l G e n (t + 12000)) (hS : HS N (I, J, V, ls) A B h) (hV : CV N I ls t) (hM : MV A t) (hT : TX N (I, J, V, ls) (A, B) t) (hR : R11 I) (hkc : n + 1 ≤ kc) (hks : 10 * (n + 1) ≤ ks) (ht0 : 0 ≤ t) (ht : t + 12000 < 9000000) (hsc : ∀ c : Int32, 1 ≤ c.toInt → c.toInt ≤ 5 → vp_in (e + c) G.2.2.2.2.1) : x_X l G mL_law 9 kc ks nkL (fun r _ => r = some (xI 1)) 599 [some (xS G.2.2.2.1.2), some (xR (some (5, 0))), some (xR (some (14, 0))), some (xI e)] [] h := by
  obtain ⟨P, rfl, hQ, hP2⟩ := hS.out
  have hc := hM.1.1
  have hTT : Tie nE N I J V ls A B := hT.1
  refine x_aload_n 600 dL_law_599 rfl rfl ?_
  refine x_aload_n 601 dL_law_600 rfl rfl ?_
  refine x_iload_n 602 dL_law_601 rfl rfl ?_
  refine x_iconst 1 603 dL_law_602 rfl rfl ?_
  refine x_iadd 604 dL_law_603 rfl ?_
  refine x_sld 605 dL_law_604 rfl (hsc 1 (by decide) (by decide)) ?_
  refine x_fVv 608 (cC_money hS (G.2.2.2.2.2 (e + 1).toNatClampNeg)) kL_79 oC_money rfl rfl dL_law_605 rfl rfl (by decide) (Nat.le_of_ble_eq_true rfl) ?_
  refine x_pop2l 609 dL_law_608 rfl rfl ?_
  refine x_aload_n 610 dL_law_609 rfl rfl ?_
  refine x_aload_n 611 dL_law_610 rfl rfl ?_
  refine x_iload_n 612 dL_law_611 rfl rfl ?_
  refine x_iconst 1 613 dL_law_612 rfl rfl ?_
  refine x_iadd 614 dL_law_613 rfl ?_
  refine x_sld 615 dL_law_614 rfl (hsc 1 (by decide) (by decide)) ?_
  refine x_fVv 618 (cR_money (G.2.2.2.2.2 (e + 1).toNatClampNeg)) kL_83 oR_money rfl rfl dL_law_615 rfl rfl (by decide) (Nat.le_of_ble_eq_true rfl) ?_
  refine x_pop2l 619 dL_law_618 rfl rfl ?_
  refine x_goto 681 dL_law_619 (by decide) ?_
  exact hX N I J V ls A B _ kc ks ⟨P, rfl, hQ, hP2⟩ (hV.up (by omega)) (hM.up (by omega)) (hT.up (by omega)) hR (by omega) (by omega)
theorem lw_case16 (hX : NX l G e n (t + 12000)) (hS : HS N (I, J, V, ls) A B h) (hV : CV N I ls t) (hM : MV A t) (hT : TX N (I, J, V, ls) (A, B) t) (hR : R11 I) (hkc : n + 1 ≤ kc) (hks : 10 * (n + 1) ≤ ks) (ht0 : 0 ≤ t) (ht : t + 12000 < 9000000) (hsc : ∀ c : Int32, 1 ≤ c.toInt → c.toInt ≤ 5 → vp_in (e + c) G.2.2.2.2.1) : x_X l G mL_law 9 kc ks nkL (fun r _ => r = some (xI 1)) 622 [some (xS G.2.2.2.1.2), some (xR (some (5, 0))), some (xR (some (14, 0))), some (xI e)] [] h := by
  obtain ⟨P, rfl, hQ, hP2⟩ := hS.out
  have hc := hM.1.1
  have hTT : Tie nE N I J V ls A B := hT.1
  refine x_aload_n 623 dL_law_622 rfl rfl ?_
  refine x_aload_n 624 dL_law_623 rfl rfl ?_
  refine x_iload_n 625 dL_law_624 rfl rfl ?_
  refine x_iconst 1 626 dL_law_625 rfl rfl ?_
  refine x_iadd 627 dL_law_626 rfl ?_
  refine x_sld 628 dL_law_627 rfl (hsc 1 (by decide) (by decide)) ?_
  refine x_fVv 631 (cC_owed hS (G.2.2.2.2.2 (e + 1).toNatClampNeg)) kL_84 oC_owed rfl rfl dL_law_628 rfl rfl (by decide) (Nat.le_of_ble_eq_true rfl) ?_
  refine x_pop2l 632 dL_law_631 rfl rfl ?_
  refine x_aload_n 633 dL_law_632 rfl rfl ?_
  refine x_aload_n 634 dL_law_633 rfl rfl ?_
  refine x_iload_n 635 dL_law_634 rfl rfl ?_
  refine x_iconst 1 636 dL_law_635 rfl rfl ?_
  refine x_iadd 637 dL_law_636 rfl ?_
  refine x_sld 638 dL_law_637 rfl (hsc 1 (by decide) (by decide)) ?_
  refine x_fVv 641 (cR_owed (G.2.2.2.2.2 (e + 1).toNatClampNeg)) kL_87 oR_owed rfl rfl dL_law_638 rfl rfl (by decide) (Nat.le_of_ble_eq_true rfl) ?_
  refine x_pop2l 642 dL_law_641 rfl rfl ?_
  refine x_goto 681 dL_law_642 (by decide) ?_
  exact hX N I J V ls A B _ kc ks ⟨P, rfl, hQ, hP2⟩ (hV.up (by omega)) (hM.up (by omega)) (hT.up (by omega)) hR (by omega) (by omega)
theorem lw_case17 (hX : NX l G e n (t + 12000)) (hS : HS N (I, J, V, ls) A B h) (hV : CV N I ls t) (hM : MV A t) (hT : TX N (I, J, V, ls) (A, B) t) (hR : R11 I) (hkc : n + 1 ≤ kc) (hks : 10 * (n + 1) ≤ ks) (ht0 : 0 ≤ t) (ht : t + 12000 < 9000000) (hsc : ∀ c : Int32, 1 ≤ c.toInt → c.toInt ≤ 5 → vp_in (e + c) G.2.2.2.2.1) : x_X l G mL_law 9 kc ks nkL (fun r _ => r = some (xI 1)) 645 [some (xS G.2.2.2.1.2), some (xR (some (5, 0))), some (xR (some (14, 0))), some (xI e)] [] h := by
  obtain ⟨P, rfl, hQ, hP2⟩ := hS.out
  have hc := hM.1.1
  have hTT : Tie nE N I J V ls A B := hT.1
  refine x_aload_n 646 dL_law_645 rfl rfl ?_
  refine x_aload_n 647 dL_law_646 rfl rfl ?_
  refine x_iload_n 648 dL_law_647 rfl rfl ?_
  refine x_iconst 1 649 dL_law_648 rfl rfl ?_
  refine x_iadd 650 dL_law_649 rfl ?_
  refine x_sld 651 dL_law_650 rfl (hsc 1 (by decide) (by decide)) ?_
  refine x_fVv 654 (cC_risk hS (G.2.2.2.2.2 (e + 1).toNatClampNeg)) kL_88 oC_risk rfl rfl dL_law_651 rfl rfl (by decide) (Nat.le_of_ble_eq_true rfl) ?_
  refine x_pop2l 655 dL_law_654 rfl rfl ?_
  refine x_aload_n 656 dL_law_655 rfl rfl ?_
  refine x_aload_n 657 dL_law_656 rfl rfl ?_
  refine x_iload_n 658 dL_law_657 rfl rfl ?_
  refine x_iconst 1 659 dL_law_658 rfl rfl ?_
  refine x_iadd 660 dL_law_659 rfl ?_
  refine x_sld 661 dL_law_660 rfl (hsc 1 (by decide) (by decide)) ?_
  refine x_fVv 664 (cR_risk hc (G.2.2.2.2.2 (e + 1).toNatClampNeg)) kL_91 oR_risk rfl rfl dL_law_661 rfl rfl (by decide) (Nat.le_of_ble_eq_true rfl) ?_
  refine x_pop2l 665 dL_law_664 rfl rfl ?_
  refine x_goto 681 dL_law_665 (by decide) ?_
  exact hX N I J V ls A B _ kc ks ⟨P, rfl, hQ, hP2⟩ (hV.up (by omega)) (hM.up (by omega)) (hT.up (by omega)) hR (by omega) (by omega)
theorem lw_case18 (hX : NX l G e n (t + 12000)) (hS : HS N (I, J, V, ls) A B h) (hV : CV N I ls t) (hM : MV A t) (hT : TX N (I, J, V, ls) (A, B) t) (hR : R11 I) (hkc : n + 1 ≤ kc) (hks : 10 * (n + 1) ≤ ks) (ht0 : 0 ≤ t) (ht : t + 12000 < 9000000) (hsc : ∀ c : Int32, 1 ≤ c.toInt → c.toInt ≤ 5 → vp_in (e + c) G.2.2.2.2.1) : x_X l G mL_law 9 kc ks nkL (fun r _ => r = some (xI 1)) 668 [some (xS G.2.2.2.1.2), some (xR (some (5, 0))), some (xR (some (14, 0))), some (xI e)] [] h := by
  obtain ⟨P, rfl, hQ, hP2⟩ := hS.out
  have hc := hM.1.1
  have hTT : Tie nE N I J V ls A B := hT.1
  refine x_aload_n 669 dL_law_668 rfl rfl ?_
  refine x_gVv 672 (cC_settle hS) kL_92 oC_settle rfl rfl dL_law_669 rfl rfl (by decide) (Nat.le_of_ble_eq_true rfl) (fun h1 hq => ?_)
  obtain ⟨P, rfl, hQ, hP2⟩ := hq
  refine x_aload_n 673 dL_law_672 rfl rfl ?_
  refine x_fVv 676 (cR_settle hc) kL_95 oR_settle rfl rfl dL_law_673 rfl rfl (by decide) (Nat.le_of_ble_eq_true rfl) ?_
  refine x_icmp_eq 681 679 dL_law_676 (by decide) rfl (fun h676 => ?_) (fun h676 => absurd ((st_tie hT hV).1) h676)
  exact hX N (stS I J V ls).2.1 (stS I J V ls).2.2.1 (stS I J V ls).2.2.2.1 (stS I J V ls).2.2.2.2 (smM A B).2.1 (smM A B).2.2 _ kc ks ⟨P, rfl, hQ, hP2⟩ ((st_ok hV).1.up (by omega)) ((sm_m hM).1.up (by omega)) ((st_tie hT hV).2.eta.up (by omega)) (r_st hR) (by omega) (by omega)
end LAW
