section MF
variable {l : Launch} {G : xG} {N : Nat} {I : Nat → Nat → Int32} {J : Nat → Nat → Int64} {P : Nat → Nat → Option xQ} {V : Nat → Nat → Int32} {A : Nat → Nat → Int32} {B : Nat → Nat → Int64}
variable {h : xH}
def lkv (A : Nat → Nat → Int32) (i q : Int32) : Int32 := if wl A i 1 q ≤ wl A i 0 q then wl A i 1 q else wl A i 0 q
def lkd (A : Nat → Nat → Int32) (i q : Int32) : Int32 := i_dis (wl A i 1 q) (wl A i 0 q)
def lk1 (A : Nat → Nat → Int32) (i : Int32) : Nat → Int32 → Int32 → Int32 → Int32 × Int32
  | 0, _, mo, le => (mo, le)
  | n + 1, q, mo, le => if mo < lkv A i q then lk1 A i n (q + Int32.ofInt 1) (lkv A i q) (lkd A i q) else if lkv A i q = mo then (if le ≤ lkd A i q then lk1 A i n (q + Int32.ofInt 1) mo le else lk1 A i n (q + Int32.ofInt 1) (lkv A i q) (lkd A i q)) else lk1 A i n (q + Int32.ofInt 1) mo le
def lk2 (A : Nat → Nat → Int32) (i mo le : Int32) : Nat → Int32 → Int32 → Int32 → Int32 → Int32 → Int32 → Int32
  | 0, _, ao, au, lo, hi, ne => if ao = 0 then (if au = 0 then ne else lo) else hi
  | n + 1, q, ao, au, lo, hi, ne => if lkv A i q = mo then (if lkd A i q = le then lk2 A i mo le n (q + Int32.ofInt 1) (if ao = 0 then 0 else if wl A i 0 q ≤ wl A i 1 q then 0 else 1) (if au = 0 then 0 else if wl A i 1 q ≤ wl A i 0 q then 0 else 1) (if lo = 0 then q else lo) q (if ne = 0 then q else if i_dis ne (A 11 i.toNatClampNeg) ≤ i_dis q (A 11 i.toNatClampNeg) then ne else q) else lk2 A i mo le n (q + Int32.ofInt 1) ao au lo hi ne) else lk2 A i mo le n (q + Int32.ofInt 1) ao au lo hi ne
def lkE (A : Nat → Nat → Int32) (i mo pr : Int32) : Nat → Nat → Int32 := if mo ≤ 0 then A else si (si A 16 0 pr) 18 0 (wl (si A 16 0 pr) i 0 pr - wl (si A 16 0 pr) i 1 pr)
theorem c64 : (64 : Int32).toInt = 64 := by decide
theorem lp_lk2 (hc : MC A) {i : Int32} (hi2 : vp_in i 2) (mo le T : Int32) : ∀ (n : Nat) (q ao au lo hi ne : Int32) (x y : Option xV), q.toInt + n = 64 → 1 ≤ q.toInt → lk2 A i mo le n q ao au lo hi ne = T → x_X l G mR_look 2 0 0 [] (x_is none (hp N I J P V (lkE A i mo T) B)) 117 [some (xR (some (14, 0))), some (xI i), some (xI mo), some (xI le), some (xI ao), some (xI au), some (xI lo), some (xI hi), some (xI ne), some (xI q), x, y] [] (hp N I J P V A B) := by
  intro n
  induction n with
  | zero =>
    intro q ao au lo hi ne x y hq1 hq2 hT
    subst hT
    refine x_iload 119 dR_look_117 rfl rfl ?_
    refine x_bipush (64) 121 dR_look_119 rfl rfl ?_
    refine x_icmp_ge 274 124 dR_look_121 (by decide) rfl (fun h121 => ?_) (fun h121 => absurd (show (64 : Int32) ≤ q from by rw [i_le, c64]; omega) h121)
    refine x_iload_n 275 dR_look_274 rfl rfl ?_
    refine x_if_le 329 278 dR_look_275 (by decide) rfl (fun h275 => ?_) (fun h275 => ?_)
    · skip
      exact x_vret dR_look_329 rfl ⟨rfl, by unfold lkE; rw [if_pos h275]⟩
    · skip
      refine x_aload_n 279 dR_look_278 rfl rfl ?_
      refine x_iload 281 dR_look_279 rfl rfl ?_
      refine x_if_eq 289 284 dR_look_281 (by decide) rfl (fun h281 => ?_) (fun h281 => ?_)
      · skip
        refine x_iload 291 dR_look_289 rfl rfl ?_
        refine x_if_eq 299 294 dR_look_291 (by decide) rfl (fun h291 => ?_) (fun h291 => ?_)
        · skip
          refine x_iload 301 dR_look_299 rfl rfl ?_
          refine y_R18 304 pR_look_128 dR_look_301 rfl ?_
          refine x_aload_n 305 dR_look_304 rfl rfl ?_
          refine x_aload_n 306 dR_look_305 rfl rfl ?_
          refine x_iload_n 307 dR_look_306 rfl rfl ?_
          refine x_iconst 0 308 dR_look_307 rfl rfl ?_
          refine x_aload_n 309 dR_look_308 rfl rfl ?_
          refine x_get _ 312 fR_128 dR_look_309 rfl rfl rfl ?_
          refine x_fVv 315 (cR_willing (by exact hc) _ _ _) kR_121 oR_willing rfl rfl dR_look_312 rfl rfl (by decide) (Nat.le_of_ble_eq_true rfl) ?_
          refine x_aload_n 316 dR_look_315 rfl rfl ?_
          refine x_iload_n 317 dR_look_316 rfl rfl ?_
          refine x_iconst 1 318 dR_look_317 rfl rfl ?_
          refine x_aload_n 319 dR_look_318 rfl rfl ?_
          refine x_get _ 322 fR_128 dR_look_319 rfl rfl rfl ?_
          refine x_fVv 325 (cR_willing (by exact hc) _ _ _) kR_121 oR_willing rfl rfl dR_look_322 rfl rfl (by decide) (Nat.le_of_ble_eq_true rfl) ?_
          refine x_isub 326 dR_look_325 rfl ?_
          refine y_R20 329 pR_look_134 dR_look_326 rfl ?_
          exact x_vret dR_look_329 rfl ⟨rfl, by unfold lkE; rw [if_neg h275]; simp only [lk2, if_pos h281, if_pos h291]; rfl⟩
        · skip
          refine x_iload 296 dR_look_294 rfl rfl ?_
          refine x_goto 301 dR_look_296 (by decide) ?_
          refine y_R18 304 pR_look_128 dR_look_301 rfl ?_
          refine x_aload_n 305 dR_look_304 rfl rfl ?_
          refine x_aload_n 306 dR_look_305 rfl rfl ?_
          refine x_iload_n 307 dR_look_306 rfl rfl ?_
          refine x_iconst 0 308 dR_look_307 rfl rfl ?_
          refine x_aload_n 309 dR_look_308 rfl rfl ?_
          refine x_get _ 312 fR_128 dR_look_309 rfl rfl rfl ?_
          refine x_fVv 315 (cR_willing (by exact hc) _ _ _) kR_121 oR_willing rfl rfl dR_look_312 rfl rfl (by decide) (Nat.le_of_ble_eq_true rfl) ?_
          refine x_aload_n 316 dR_look_315 rfl rfl ?_
          refine x_iload_n 317 dR_look_316 rfl rfl ?_
          refine x_iconst 1 318 dR_look_317 rfl rfl ?_
          refine x_aload_n 319 dR_look_318 rfl rfl ?_
          refine x_get _ 322 fR_128 dR_look_319 rfl rfl rfl ?_
          refine x_fVv 325 (cR_willing (by exact hc) _ _ _) kR_121 oR_willing rfl rfl dR_look_322 rfl rfl (by decide) (Nat.le_of_ble_eq_true rfl) ?_
          refine x_isub 326 dR_look_325 rfl ?_
          refine y_R20 329 pR_look_134 dR_look_326 rfl ?_
          exact x_vret dR_look_329 rfl ⟨rfl, by unfold lkE; rw [if_neg h275]; simp only [lk2, if_pos h281, if_neg h291]; rfl⟩
      · skip
        refine x_iload 286 dR_look_284 rfl rfl ?_
        refine x_goto 301 dR_look_286 (by decide) ?_
        refine y_R18 304 pR_look_128 dR_look_301 rfl ?_
        refine x_aload_n 305 dR_look_304 rfl rfl ?_
        refine x_aload_n 306 dR_look_305 rfl rfl ?_
        refine x_iload_n 307 dR_look_306 rfl rfl ?_
        refine x_iconst 0 308 dR_look_307 rfl rfl ?_
        refine x_aload_n 309 dR_look_308 rfl rfl ?_
        refine x_get _ 312 fR_128 dR_look_309 rfl rfl rfl ?_
        refine x_fVv 315 (cR_willing (by exact hc) _ _ _) kR_121 oR_willing rfl rfl dR_look_312 rfl rfl (by decide) (Nat.le_of_ble_eq_true rfl) ?_
        refine x_aload_n 316 dR_look_315 rfl rfl ?_
        refine x_iload_n 317 dR_look_316 rfl rfl ?_
        refine x_iconst 1 318 dR_look_317 rfl rfl ?_
        refine x_aload_n 319 dR_look_318 rfl rfl ?_
        refine x_get _ 322 fR_128 dR_look_319 rfl rfl rfl ?_
        refine x_fVv 325 (cR_willing (by exact hc) _ _ _) kR_121 oR_willing rfl rfl dR_look_322 rfl rfl (by decide) (Nat.le_of_ble_eq_true rfl) ?_
        refine x_isub 326 dR_look_325 rfl ?_
        refine y_R20 329 pR_look_134 dR_look_326 rfl ?_
        exact x_vret dR_look_329 rfl ⟨rfl, by unfold lkE; rw [if_neg h275]; simp only [lk2, if_neg h281]; rfl⟩
  | succ n ih =>
    intro q ao au lo hi ne x y hq1 hq2 hT
    subst hT
    have hlt : ¬ (64 : Int32) ≤ q := by rw [i_le, c64]; omega
    have K : x_X l G mR_look 2 0 0 [] (x_is none (hp N I J P V (lkE A i mo (lk2 A i mo le (n + 1) q ao au lo hi ne)) B)) 158 [some (xR (some (14, 0))), some (xI i), some (xI mo), some (xI le), some (xI ao), some (xI au), some (xI lo), some (xI hi), some (xI ne), some (xI q), some (xI (wl A i 0 q)), some (xI (wl A i 1 q))] [xI (lkv A i q)] (hp N I J P V A B) := by
      refine x_iload_n 159 dR_look_158 rfl rfl ?_
      refine x_icmp_ne 268 162 dR_look_159 (by decide) rfl (fun h159 => ?_) (fun h159 => ?_)
      · skip
        refine x_iinc 271 dR_look_268 rfl rfl (by decide) rfl ?_
        refine x_goto 117 dR_look_271 (by decide) ?_
        exact ih _ _ _ _ _ _ _ _ (by rw [i_inc (by omega) (by omega)]; omega) (by rw [i_inc (by omega) (by omega)]; omega) (by simp only [lk2, if_neg h159])
      · skip
        refine x_iload 164 dR_look_162 rfl rfl ?_
        refine x_iload 166 dR_look_164 rfl rfl ?_
        refine x_fSv 169 (cR_distance _ _) kR_125 oR_distance dR_look_166 rfl rfl (by decide) (Nat.le_of_ble_eq_true rfl) ?_
        refine x_iload_n 170 dR_look_169 rfl rfl ?_
        refine x_icmp_ne 268 173 dR_look_170 (by decide) rfl (fun h170 => ?_) (fun h170 => ?_)
        · skip
          refine x_iinc 271 dR_look_268 rfl rfl (by decide) rfl ?_
          refine x_goto 117 dR_look_271 (by decide) ?_
          exact ih _ _ _ _ _ _ _ _ (by rw [i_inc (by omega) (by omega)]; omega) (by rw [i_inc (by omega) (by omega)]; omega) (by simp only [lk2, if_pos h159, if_neg (show ¬ lkd A i q = le from h170)])
        · skip
          refine x_iload 175 dR_look_173 rfl rfl ?_
          refine x_if_eq 189 178 dR_look_175 (by decide) rfl (fun h175 => ?_) (fun h175 => ?_)
          · skip
            refine x_iconst 0 190 dR_look_189 rfl rfl ?_
            refine x_istore 192 dR_look_190 rfl (by decide) rfl ?_
            refine x_iload 194 dR_look_192 rfl rfl ?_
            refine x_if_eq 208 197 dR_look_194 (by decide) rfl (fun h194 => ?_) (fun h194 => ?_)
            · skip
              refine x_iconst 0 209 dR_look_208 rfl rfl ?_
              refine x_istore 211 dR_look_209 rfl (by decide) rfl ?_
              refine x_iload 213 dR_look_211 rfl rfl ?_
              refine x_if_ne 221 216 dR_look_213 (by decide) rfl (fun h213 => ?_) (fun h213 => ?_)
              · skip
                refine x_iload 223 dR_look_221 rfl rfl ?_
                refine x_istore 225 dR_look_223 rfl (by decide) rfl ?_
                refine x_iload 227 dR_look_225 rfl rfl ?_
                refine x_istore 229 dR_look_227 rfl (by decide) rfl ?_
                refine x_iload 231 dR_look_229 rfl rfl ?_
                refine x_if_eq 259 234 dR_look_231 (by decide) rfl (fun h231 => ?_) (fun h231 => ?_)
                · skip
                  refine x_iload 261 dR_look_259 rfl rfl ?_
                  refine x_goto 266 dR_look_261 (by decide) ?_
                  refine x_istore 268 dR_look_266 rfl (by decide) rfl ?_
                  refine x_iinc 271 dR_look_268 rfl rfl (by decide) rfl ?_
                  refine x_goto 117 dR_look_271 (by decide) ?_
                  exact ih _ _ _ _ _ _ _ _ (by rw [i_inc (by omega) (by omega)]; omega) (by rw [i_inc (by omega) (by omega)]; omega) (by simp only [lk2, if_pos h159, if_pos (show lkd A i q = le from h170), if_pos h175, if_pos h194, if_neg h213, if_pos h231])
                · skip
                  refine x_iload 236 dR_look_234 rfl rfl ?_
                  refine x_aload_n 237 dR_look_236 rfl rfl ?_
                  refine x_get _ 240 fR_51 dR_look_237 rfl rfl rfl ?_
                  refine x_iload_n 241 dR_look_240 rfl rfl ?_
                  refine x_iald 242 dR_look_241 rfl rfl hi2 ?_
                  refine x_fSv 245 (cR_distance _ _) kR_125 oR_distance dR_look_242 rfl rfl (by decide) (Nat.le_of_ble_eq_true rfl) ?_
                  refine x_iload 247 dR_look_245 rfl rfl ?_
                  refine x_aload_n 248 dR_look_247 rfl rfl ?_
                  refine x_get _ 251 fR_51 dR_look_248 rfl rfl rfl ?_
                  refine x_iload_n 252 dR_look_251 rfl rfl ?_
                  refine x_iald 253 dR_look_252 rfl rfl hi2 ?_
                  refine x_fSv 256 (cR_distance _ _) kR_125 oR_distance dR_look_253 rfl rfl (by decide) (Nat.le_of_ble_eq_true rfl) ?_
                  refine x_icmp_ge 264 259 dR_look_256 (by decide) rfl (fun h256 => ?_) (fun h256 => ?_)
                  · skip
                    refine x_iload 266 dR_look_264 rfl rfl ?_
                    refine x_istore 268 dR_look_266 rfl (by decide) rfl ?_
                    refine x_iinc 271 dR_look_268 rfl rfl (by decide) rfl ?_
                    refine x_goto 117 dR_look_271 (by decide) ?_
                    exact ih _ _ _ _ _ _ _ _ (by rw [i_inc (by omega) (by omega)]; omega) (by rw [i_inc (by omega) (by omega)]; omega) (by simp only [lk2, if_pos h159, if_pos (show lkd A i q = le from h170), if_pos h175, if_pos h194, if_neg h213, if_neg h231, if_pos h256])
                  · skip
                    refine x_iload 261 dR_look_259 rfl rfl ?_
                    refine x_goto 266 dR_look_261 (by decide) ?_
                    refine x_istore 268 dR_look_266 rfl (by decide) rfl ?_
                    refine x_iinc 271 dR_look_268 rfl rfl (by decide) rfl ?_
                    refine x_goto 117 dR_look_271 (by decide) ?_
                    exact ih _ _ _ _ _ _ _ _ (by rw [i_inc (by omega) (by omega)]; omega) (by rw [i_inc (by omega) (by omega)]; omega) (by simp only [lk2, if_pos h159, if_pos (show lkd A i q = le from h170), if_pos h175, if_pos h194, if_neg h213, if_neg h231, if_neg h256])
              · skip
                refine x_iload 218 dR_look_216 rfl rfl ?_
                refine x_goto 223 dR_look_218 (by decide) ?_
                refine x_istore 225 dR_look_223 rfl (by decide) rfl ?_
                refine x_iload 227 dR_look_225 rfl rfl ?_
                refine x_istore 229 dR_look_227 rfl (by decide) rfl ?_
                refine x_iload 231 dR_look_229 rfl rfl ?_
                refine x_if_eq 259 234 dR_look_231 (by decide) rfl (fun h231 => ?_) (fun h231 => ?_)
                · skip
                  refine x_iload 261 dR_look_259 rfl rfl ?_
                  refine x_goto 266 dR_look_261 (by decide) ?_
                  refine x_istore 268 dR_look_266 rfl (by decide) rfl ?_
                  refine x_iinc 271 dR_look_268 rfl rfl (by decide) rfl ?_
                  refine x_goto 117 dR_look_271 (by decide) ?_
                  exact ih _ _ _ _ _ _ _ _ (by rw [i_inc (by omega) (by omega)]; omega) (by rw [i_inc (by omega) (by omega)]; omega) (by simp only [lk2, if_pos h159, if_pos (show lkd A i q = le from h170), if_pos h175, if_pos h194, if_pos h213, if_pos h231])
                · skip
                  refine x_iload 236 dR_look_234 rfl rfl ?_
                  refine x_aload_n 237 dR_look_236 rfl rfl ?_
                  refine x_get _ 240 fR_51 dR_look_237 rfl rfl rfl ?_
                  refine x_iload_n 241 dR_look_240 rfl rfl ?_
                  refine x_iald 242 dR_look_241 rfl rfl hi2 ?_
                  refine x_fSv 245 (cR_distance _ _) kR_125 oR_distance dR_look_242 rfl rfl (by decide) (Nat.le_of_ble_eq_true rfl) ?_
                  refine x_iload 247 dR_look_245 rfl rfl ?_
                  refine x_aload_n 248 dR_look_247 rfl rfl ?_
                  refine x_get _ 251 fR_51 dR_look_248 rfl rfl rfl ?_
                  refine x_iload_n 252 dR_look_251 rfl rfl ?_
                  refine x_iald 253 dR_look_252 rfl rfl hi2 ?_
                  refine x_fSv 256 (cR_distance _ _) kR_125 oR_distance dR_look_253 rfl rfl (by decide) (Nat.le_of_ble_eq_true rfl) ?_
                  refine x_icmp_ge 264 259 dR_look_256 (by decide) rfl (fun h256 => ?_) (fun h256 => ?_)
                  · skip
                    refine x_iload 266 dR_look_264 rfl rfl ?_
                    refine x_istore 268 dR_look_266 rfl (by decide) rfl ?_
                    refine x_iinc 271 dR_look_268 rfl rfl (by decide) rfl ?_
                    refine x_goto 117 dR_look_271 (by decide) ?_
                    exact ih _ _ _ _ _ _ _ _ (by rw [i_inc (by omega) (by omega)]; omega) (by rw [i_inc (by omega) (by omega)]; omega) (by simp only [lk2, if_pos h159, if_pos (show lkd A i q = le from h170), if_pos h175, if_pos h194, if_pos h213, if_neg h231, if_pos h256])
                  · skip
                    refine x_iload 261 dR_look_259 rfl rfl ?_
                    refine x_goto 266 dR_look_261 (by decide) ?_
                    refine x_istore 268 dR_look_266 rfl (by decide) rfl ?_
                    refine x_iinc 271 dR_look_268 rfl rfl (by decide) rfl ?_
                    refine x_goto 117 dR_look_271 (by decide) ?_
                    exact ih _ _ _ _ _ _ _ _ (by rw [i_inc (by omega) (by omega)]; omega) (by rw [i_inc (by omega) (by omega)]; omega) (by simp only [lk2, if_pos h159, if_pos (show lkd A i q = le from h170), if_pos h175, if_pos h194, if_pos h213, if_neg h231, if_neg h256])
            · skip
              refine x_iload 199 dR_look_197 rfl rfl ?_
              refine x_iload 201 dR_look_199 rfl rfl ?_
              refine x_icmp_le 208 204 dR_look_201 (by decide) rfl (fun h201 => ?_) (fun h201 => ?_)
              · skip
                refine x_iconst 0 209 dR_look_208 rfl rfl ?_
                refine x_istore 211 dR_look_209 rfl (by decide) rfl ?_
                refine x_iload 213 dR_look_211 rfl rfl ?_
                refine x_if_ne 221 216 dR_look_213 (by decide) rfl (fun h213 => ?_) (fun h213 => ?_)
                · skip
                  refine x_iload 223 dR_look_221 rfl rfl ?_
                  refine x_istore 225 dR_look_223 rfl (by decide) rfl ?_
                  refine x_iload 227 dR_look_225 rfl rfl ?_
                  refine x_istore 229 dR_look_227 rfl (by decide) rfl ?_
                  refine x_iload 231 dR_look_229 rfl rfl ?_
                  refine x_if_eq 259 234 dR_look_231 (by decide) rfl (fun h231 => ?_) (fun h231 => ?_)
                  · skip
                    refine x_iload 261 dR_look_259 rfl rfl ?_
                    refine x_goto 266 dR_look_261 (by decide) ?_
                    refine x_istore 268 dR_look_266 rfl (by decide) rfl ?_
                    refine x_iinc 271 dR_look_268 rfl rfl (by decide) rfl ?_
                    refine x_goto 117 dR_look_271 (by decide) ?_
                    exact ih _ _ _ _ _ _ _ _ (by rw [i_inc (by omega) (by omega)]; omega) (by rw [i_inc (by omega) (by omega)]; omega) (by simp only [lk2, if_pos h159, if_pos (show lkd A i q = le from h170), if_pos h175, if_neg h194, if_pos h201, if_neg h213, if_pos h231])
                  · skip
                    refine x_iload 236 dR_look_234 rfl rfl ?_
                    refine x_aload_n 237 dR_look_236 rfl rfl ?_
                    refine x_get _ 240 fR_51 dR_look_237 rfl rfl rfl ?_
                    refine x_iload_n 241 dR_look_240 rfl rfl ?_
                    refine x_iald 242 dR_look_241 rfl rfl hi2 ?_
                    refine x_fSv 245 (cR_distance _ _) kR_125 oR_distance dR_look_242 rfl rfl (by decide) (Nat.le_of_ble_eq_true rfl) ?_
                    refine x_iload 247 dR_look_245 rfl rfl ?_
                    refine x_aload_n 248 dR_look_247 rfl rfl ?_
                    refine x_get _ 251 fR_51 dR_look_248 rfl rfl rfl ?_
                    refine x_iload_n 252 dR_look_251 rfl rfl ?_
                    refine x_iald 253 dR_look_252 rfl rfl hi2 ?_
                    refine x_fSv 256 (cR_distance _ _) kR_125 oR_distance dR_look_253 rfl rfl (by decide) (Nat.le_of_ble_eq_true rfl) ?_
                    refine x_icmp_ge 264 259 dR_look_256 (by decide) rfl (fun h256 => ?_) (fun h256 => ?_)
                    · skip
                      refine x_iload 266 dR_look_264 rfl rfl ?_
                      refine x_istore 268 dR_look_266 rfl (by decide) rfl ?_
                      refine x_iinc 271 dR_look_268 rfl rfl (by decide) rfl ?_
                      refine x_goto 117 dR_look_271 (by decide) ?_
                      exact ih _ _ _ _ _ _ _ _ (by rw [i_inc (by omega) (by omega)]; omega) (by rw [i_inc (by omega) (by omega)]; omega) (by simp only [lk2, if_pos h159, if_pos (show lkd A i q = le from h170), if_pos h175, if_neg h194, if_pos h201, if_neg h213, if_neg h231, if_pos h256])
                    · skip
                      refine x_iload 261 dR_look_259 rfl rfl ?_
                      refine x_goto 266 dR_look_261 (by decide) ?_
                      refine x_istore 268 dR_look_266 rfl (by decide) rfl ?_
                      refine x_iinc 271 dR_look_268 rfl rfl (by decide) rfl ?_
                      refine x_goto 117 dR_look_271 (by decide) ?_
                      exact ih _ _ _ _ _ _ _ _ (by rw [i_inc (by omega) (by omega)]; omega) (by rw [i_inc (by omega) (by omega)]; omega) (by simp only [lk2, if_pos h159, if_pos (show lkd A i q = le from h170), if_pos h175, if_neg h194, if_pos h201, if_neg h213, if_neg h231, if_neg h256])
                · skip
                  refine x_iload 218 dR_look_216 rfl rfl ?_
                  refine x_goto 223 dR_look_218 (by decide) ?_
                  refine x_istore 225 dR_look_223 rfl (by decide) rfl ?_
                  refine x_iload 227 dR_look_225 rfl rfl ?_
                  refine x_istore 229 dR_look_227 rfl (by decide) rfl ?_
                  refine x_iload 231 dR_look_229 rfl rfl ?_
                  refine x_if_eq 259 234 dR_look_231 (by decide) rfl (fun h231 => ?_) (fun h231 => ?_)
                  · skip
                    refine x_iload 261 dR_look_259 rfl rfl ?_
                    refine x_goto 266 dR_look_261 (by decide) ?_
                    refine x_istore 268 dR_look_266 rfl (by decide) rfl ?_
                    refine x_iinc 271 dR_look_268 rfl rfl (by decide) rfl ?_
                    refine x_goto 117 dR_look_271 (by decide) ?_
                    exact ih _ _ _ _ _ _ _ _ (by rw [i_inc (by omega) (by omega)]; omega) (by rw [i_inc (by omega) (by omega)]; omega) (by simp only [lk2, if_pos h159, if_pos (show lkd A i q = le from h170), if_pos h175, if_neg h194, if_pos h201, if_pos h213, if_pos h231])
                  · skip
                    refine x_iload 236 dR_look_234 rfl rfl ?_
                    refine x_aload_n 237 dR_look_236 rfl rfl ?_
                    refine x_get _ 240 fR_51 dR_look_237 rfl rfl rfl ?_
                    refine x_iload_n 241 dR_look_240 rfl rfl ?_
                    refine x_iald 242 dR_look_241 rfl rfl hi2 ?_
                    refine x_fSv 245 (cR_distance _ _) kR_125 oR_distance dR_look_242 rfl rfl (by decide) (Nat.le_of_ble_eq_true rfl) ?_
                    refine x_iload 247 dR_look_245 rfl rfl ?_
                    refine x_aload_n 248 dR_look_247 rfl rfl ?_
                    refine x_get _ 251 fR_51 dR_look_248 rfl rfl rfl ?_
                    refine x_iload_n 252 dR_look_251 rfl rfl ?_
                    refine x_iald 253 dR_look_252 rfl rfl hi2 ?_
                    refine x_fSv 256 (cR_distance _ _) kR_125 oR_distance dR_look_253 rfl rfl (by decide) (Nat.le_of_ble_eq_true rfl) ?_
                    refine x_icmp_ge 264 259 dR_look_256 (by decide) rfl (fun h256 => ?_) (fun h256 => ?_)
                    · skip
                      refine x_iload 266 dR_look_264 rfl rfl ?_
                      refine x_istore 268 dR_look_266 rfl (by decide) rfl ?_
                      refine x_iinc 271 dR_look_268 rfl rfl (by decide) rfl ?_
                      refine x_goto 117 dR_look_271 (by decide) ?_
                      exact ih _ _ _ _ _ _ _ _ (by rw [i_inc (by omega) (by omega)]; omega) (by rw [i_inc (by omega) (by omega)]; omega) (by simp only [lk2, if_pos h159, if_pos (show lkd A i q = le from h170), if_pos h175, if_neg h194, if_pos h201, if_pos h213, if_neg h231, if_pos h256])
                    · skip
                      refine x_iload 261 dR_look_259 rfl rfl ?_
                      refine x_goto 266 dR_look_261 (by decide) ?_
                      refine x_istore 268 dR_look_266 rfl (by decide) rfl ?_
                      refine x_iinc 271 dR_look_268 rfl rfl (by decide) rfl ?_
                      refine x_goto 117 dR_look_271 (by decide) ?_
                      exact ih _ _ _ _ _ _ _ _ (by rw [i_inc (by omega) (by omega)]; omega) (by rw [i_inc (by omega) (by omega)]; omega) (by simp only [lk2, if_pos h159, if_pos (show lkd A i q = le from h170), if_pos h175, if_neg h194, if_pos h201, if_pos h213, if_neg h231, if_neg h256])
              · skip
                refine x_iconst 1 205 dR_look_204 rfl rfl ?_
                refine x_goto 209 dR_look_205 (by decide) ?_
                refine x_istore 211 dR_look_209 rfl (by decide) rfl ?_
                refine x_iload 213 dR_look_211 rfl rfl ?_
                refine x_if_ne 221 216 dR_look_213 (by decide) rfl (fun h213 => ?_) (fun h213 => ?_)
                · skip
                  refine x_iload 223 dR_look_221 rfl rfl ?_
                  refine x_istore 225 dR_look_223 rfl (by decide) rfl ?_
                  refine x_iload 227 dR_look_225 rfl rfl ?_
                  refine x_istore 229 dR_look_227 rfl (by decide) rfl ?_
                  refine x_iload 231 dR_look_229 rfl rfl ?_
                  refine x_if_eq 259 234 dR_look_231 (by decide) rfl (fun h231 => ?_) (fun h231 => ?_)
                  · skip
                    refine x_iload 261 dR_look_259 rfl rfl ?_
                    refine x_goto 266 dR_look_261 (by decide) ?_
                    refine x_istore 268 dR_look_266 rfl (by decide) rfl ?_
                    refine x_iinc 271 dR_look_268 rfl rfl (by decide) rfl ?_
                    refine x_goto 117 dR_look_271 (by decide) ?_
                    exact ih _ _ _ _ _ _ _ _ (by rw [i_inc (by omega) (by omega)]; omega) (by rw [i_inc (by omega) (by omega)]; omega) (by simp only [lk2, if_pos h159, if_pos (show lkd A i q = le from h170), if_pos h175, if_neg h194, if_neg h201, if_neg h213, if_pos h231])
                  · skip
                    refine x_iload 236 dR_look_234 rfl rfl ?_
                    refine x_aload_n 237 dR_look_236 rfl rfl ?_
                    refine x_get _ 240 fR_51 dR_look_237 rfl rfl rfl ?_
                    refine x_iload_n 241 dR_look_240 rfl rfl ?_
                    refine x_iald 242 dR_look_241 rfl rfl hi2 ?_
                    refine x_fSv 245 (cR_distance _ _) kR_125 oR_distance dR_look_242 rfl rfl (by decide) (Nat.le_of_ble_eq_true rfl) ?_
                    refine x_iload 247 dR_look_245 rfl rfl ?_
                    refine x_aload_n 248 dR_look_247 rfl rfl ?_
                    refine x_get _ 251 fR_51 dR_look_248 rfl rfl rfl ?_
                    refine x_iload_n 252 dR_look_251 rfl rfl ?_
                    refine x_iald 253 dR_look_252 rfl rfl hi2 ?_
                    refine x_fSv 256 (cR_distance _ _) kR_125 oR_distance dR_look_253 rfl rfl (by decide) (Nat.le_of_ble_eq_true rfl) ?_
                    refine x_icmp_ge 264 259 dR_look_256 (by decide) rfl (fun h256 => ?_) (fun h256 => ?_)
                    · skip
                      refine x_iload 266 dR_look_264 rfl rfl ?_
                      refine x_istore 268 dR_look_266 rfl (by decide) rfl ?_
                      refine x_iinc 271 dR_look_268 rfl rfl (by decide) rfl ?_
                      refine x_goto 117 dR_look_271 (by decide) ?_
                      exact ih _ _ _ _ _ _ _ _ (by rw [i_inc (by omega) (by omega)]; omega) (by rw [i_inc (by omega) (by omega)]; omega) (by simp only [lk2, if_pos h159, if_pos (show lkd A i q = le from h170), if_pos h175, if_neg h194, if_neg h201, if_neg h213, if_neg h231, if_pos h256])
                    · skip
                      refine x_iload 261 dR_look_259 rfl rfl ?_
                      refine x_goto 266 dR_look_261 (by decide) ?_
                      refine x_istore 268 dR_look_266 rfl (by decide) rfl ?_
                      refine x_iinc 271 dR_look_268 rfl rfl (by decide) rfl ?_
                      refine x_goto 117 dR_look_271 (by decide) ?_
                      exact ih _ _ _ _ _ _ _ _ (by rw [i_inc (by omega) (by omega)]; omega) (by rw [i_inc (by omega) (by omega)]; omega) (by simp only [lk2, if_pos h159, if_pos (show lkd A i q = le from h170), if_pos h175, if_neg h194, if_neg h201, if_neg h213, if_neg h231, if_neg h256])
                · skip
                  refine x_iload 218 dR_look_216 rfl rfl ?_
                  refine x_goto 223 dR_look_218 (by decide) ?_
                  refine x_istore 225 dR_look_223 rfl (by decide) rfl ?_
                  refine x_iload 227 dR_look_225 rfl rfl ?_
                  refine x_istore 229 dR_look_227 rfl (by decide) rfl ?_
                  refine x_iload 231 dR_look_229 rfl rfl ?_
                  refine x_if_eq 259 234 dR_look_231 (by decide) rfl (fun h231 => ?_) (fun h231 => ?_)
                  · skip
                    refine x_iload 261 dR_look_259 rfl rfl ?_
                    refine x_goto 266 dR_look_261 (by decide) ?_
                    refine x_istore 268 dR_look_266 rfl (by decide) rfl ?_
                    refine x_iinc 271 dR_look_268 rfl rfl (by decide) rfl ?_
                    refine x_goto 117 dR_look_271 (by decide) ?_
                    exact ih _ _ _ _ _ _ _ _ (by rw [i_inc (by omega) (by omega)]; omega) (by rw [i_inc (by omega) (by omega)]; omega) (by simp only [lk2, if_pos h159, if_pos (show lkd A i q = le from h170), if_pos h175, if_neg h194, if_neg h201, if_pos h213, if_pos h231])
                  · skip
                    refine x_iload 236 dR_look_234 rfl rfl ?_
                    refine x_aload_n 237 dR_look_236 rfl rfl ?_
                    refine x_get _ 240 fR_51 dR_look_237 rfl rfl rfl ?_
                    refine x_iload_n 241 dR_look_240 rfl rfl ?_
                    refine x_iald 242 dR_look_241 rfl rfl hi2 ?_
                    refine x_fSv 245 (cR_distance _ _) kR_125 oR_distance dR_look_242 rfl rfl (by decide) (Nat.le_of_ble_eq_true rfl) ?_
                    refine x_iload 247 dR_look_245 rfl rfl ?_
                    refine x_aload_n 248 dR_look_247 rfl rfl ?_
                    refine x_get _ 251 fR_51 dR_look_248 rfl rfl rfl ?_
                    refine x_iload_n 252 dR_look_251 rfl rfl ?_
                    refine x_iald 253 dR_look_252 rfl rfl hi2 ?_
                    refine x_fSv 256 (cR_distance _ _) kR_125 oR_distance dR_look_253 rfl rfl (by decide) (Nat.le_of_ble_eq_true rfl) ?_
                    refine x_icmp_ge 264 259 dR_look_256 (by decide) rfl (fun h256 => ?_) (fun h256 => ?_)
                    · skip
                      refine x_iload 266 dR_look_264 rfl rfl ?_
                      refine x_istore 268 dR_look_266 rfl (by decide) rfl ?_
                      refine x_iinc 271 dR_look_268 rfl rfl (by decide) rfl ?_
                      refine x_goto 117 dR_look_271 (by decide) ?_
                      exact ih _ _ _ _ _ _ _ _ (by rw [i_inc (by omega) (by omega)]; omega) (by rw [i_inc (by omega) (by omega)]; omega) (by simp only [lk2, if_pos h159, if_pos (show lkd A i q = le from h170), if_pos h175, if_neg h194, if_neg h201, if_pos h213, if_neg h231, if_pos h256])
                    · skip
                      refine x_iload 261 dR_look_259 rfl rfl ?_
                      refine x_goto 266 dR_look_261 (by decide) ?_
                      refine x_istore 268 dR_look_266 rfl (by decide) rfl ?_
                      refine x_iinc 271 dR_look_268 rfl rfl (by decide) rfl ?_
                      refine x_goto 117 dR_look_271 (by decide) ?_
                      exact ih _ _ _ _ _ _ _ _ (by rw [i_inc (by omega) (by omega)]; omega) (by rw [i_inc (by omega) (by omega)]; omega) (by simp only [lk2, if_pos h159, if_pos (show lkd A i q = le from h170), if_pos h175, if_neg h194, if_neg h201, if_pos h213, if_neg h231, if_neg h256])
          · skip
            refine x_iload 180 dR_look_178 rfl rfl ?_
            refine x_iload 182 dR_look_180 rfl rfl ?_
            refine x_icmp_le 189 185 dR_look_182 (by decide) rfl (fun h182 => ?_) (fun h182 => ?_)
            · skip
              refine x_iconst 0 190 dR_look_189 rfl rfl ?_
              refine x_istore 192 dR_look_190 rfl (by decide) rfl ?_
              refine x_iload 194 dR_look_192 rfl rfl ?_
              refine x_if_eq 208 197 dR_look_194 (by decide) rfl (fun h194 => ?_) (fun h194 => ?_)
              · skip
                refine x_iconst 0 209 dR_look_208 rfl rfl ?_
                refine x_istore 211 dR_look_209 rfl (by decide) rfl ?_
                refine x_iload 213 dR_look_211 rfl rfl ?_
                refine x_if_ne 221 216 dR_look_213 (by decide) rfl (fun h213 => ?_) (fun h213 => ?_)
                · skip
                  refine x_iload 223 dR_look_221 rfl rfl ?_
                  refine x_istore 225 dR_look_223 rfl (by decide) rfl ?_
                  refine x_iload 227 dR_look_225 rfl rfl ?_
                  refine x_istore 229 dR_look_227 rfl (by decide) rfl ?_
                  refine x_iload 231 dR_look_229 rfl rfl ?_
                  refine x_if_eq 259 234 dR_look_231 (by decide) rfl (fun h231 => ?_) (fun h231 => ?_)
                  · skip
                    refine x_iload 261 dR_look_259 rfl rfl ?_
                    refine x_goto 266 dR_look_261 (by decide) ?_
                    refine x_istore 268 dR_look_266 rfl (by decide) rfl ?_
                    refine x_iinc 271 dR_look_268 rfl rfl (by decide) rfl ?_
                    refine x_goto 117 dR_look_271 (by decide) ?_
                    exact ih _ _ _ _ _ _ _ _ (by rw [i_inc (by omega) (by omega)]; omega) (by rw [i_inc (by omega) (by omega)]; omega) (by simp only [lk2, if_pos h159, if_pos (show lkd A i q = le from h170), if_neg h175, if_pos h182, if_pos h194, if_neg h213, if_pos h231])
                  · skip
                    refine x_iload 236 dR_look_234 rfl rfl ?_
                    refine x_aload_n 237 dR_look_236 rfl rfl ?_
                    refine x_get _ 240 fR_51 dR_look_237 rfl rfl rfl ?_
                    refine x_iload_n 241 dR_look_240 rfl rfl ?_
                    refine x_iald 242 dR_look_241 rfl rfl hi2 ?_
                    refine x_fSv 245 (cR_distance _ _) kR_125 oR_distance dR_look_242 rfl rfl (by decide) (Nat.le_of_ble_eq_true rfl) ?_
                    refine x_iload 247 dR_look_245 rfl rfl ?_
                    refine x_aload_n 248 dR_look_247 rfl rfl ?_
                    refine x_get _ 251 fR_51 dR_look_248 rfl rfl rfl ?_
                    refine x_iload_n 252 dR_look_251 rfl rfl ?_
                    refine x_iald 253 dR_look_252 rfl rfl hi2 ?_
                    refine x_fSv 256 (cR_distance _ _) kR_125 oR_distance dR_look_253 rfl rfl (by decide) (Nat.le_of_ble_eq_true rfl) ?_
                    refine x_icmp_ge 264 259 dR_look_256 (by decide) rfl (fun h256 => ?_) (fun h256 => ?_)
                    · skip
                      refine x_iload 266 dR_look_264 rfl rfl ?_
                      refine x_istore 268 dR_look_266 rfl (by decide) rfl ?_
                      refine x_iinc 271 dR_look_268 rfl rfl (by decide) rfl ?_
                      refine x_goto 117 dR_look_271 (by decide) ?_
                      exact ih _ _ _ _ _ _ _ _ (by rw [i_inc (by omega) (by omega)]; omega) (by rw [i_inc (by omega) (by omega)]; omega) (by simp only [lk2, if_pos h159, if_pos (show lkd A i q = le from h170), if_neg h175, if_pos h182, if_pos h194, if_neg h213, if_neg h231, if_pos h256])
                    · skip
                      refine x_iload 261 dR_look_259 rfl rfl ?_
                      refine x_goto 266 dR_look_261 (by decide) ?_
                      refine x_istore 268 dR_look_266 rfl (by decide) rfl ?_
                      refine x_iinc 271 dR_look_268 rfl rfl (by decide) rfl ?_
                      refine x_goto 117 dR_look_271 (by decide) ?_
                      exact ih _ _ _ _ _ _ _ _ (by rw [i_inc (by omega) (by omega)]; omega) (by rw [i_inc (by omega) (by omega)]; omega) (by simp only [lk2, if_pos h159, if_pos (show lkd A i q = le from h170), if_neg h175, if_pos h182, if_pos h194, if_neg h213, if_neg h231, if_neg h256])
                · skip
                  refine x_iload 218 dR_look_216 rfl rfl ?_
                  refine x_goto 223 dR_look_218 (by decide) ?_
                  refine x_istore 225 dR_look_223 rfl (by decide) rfl ?_
                  refine x_iload 227 dR_look_225 rfl rfl ?_
                  refine x_istore 229 dR_look_227 rfl (by decide) rfl ?_
                  refine x_iload 231 dR_look_229 rfl rfl ?_
                  refine x_if_eq 259 234 dR_look_231 (by decide) rfl (fun h231 => ?_) (fun h231 => ?_)
                  · skip
                    refine x_iload 261 dR_look_259 rfl rfl ?_
                    refine x_goto 266 dR_look_261 (by decide) ?_
                    refine x_istore 268 dR_look_266 rfl (by decide) rfl ?_
                    refine x_iinc 271 dR_look_268 rfl rfl (by decide) rfl ?_
                    refine x_goto 117 dR_look_271 (by decide) ?_
                    exact ih _ _ _ _ _ _ _ _ (by rw [i_inc (by omega) (by omega)]; omega) (by rw [i_inc (by omega) (by omega)]; omega) (by simp only [lk2, if_pos h159, if_pos (show lkd A i q = le from h170), if_neg h175, if_pos h182, if_pos h194, if_pos h213, if_pos h231])
                  · skip
                    refine x_iload 236 dR_look_234 rfl rfl ?_
                    refine x_aload_n 237 dR_look_236 rfl rfl ?_
                    refine x_get _ 240 fR_51 dR_look_237 rfl rfl rfl ?_
                    refine x_iload_n 241 dR_look_240 rfl rfl ?_
                    refine x_iald 242 dR_look_241 rfl rfl hi2 ?_
                    refine x_fSv 245 (cR_distance _ _) kR_125 oR_distance dR_look_242 rfl rfl (by decide) (Nat.le_of_ble_eq_true rfl) ?_
                    refine x_iload 247 dR_look_245 rfl rfl ?_
                    refine x_aload_n 248 dR_look_247 rfl rfl ?_
                    refine x_get _ 251 fR_51 dR_look_248 rfl rfl rfl ?_
                    refine x_iload_n 252 dR_look_251 rfl rfl ?_
                    refine x_iald 253 dR_look_252 rfl rfl hi2 ?_
                    refine x_fSv 256 (cR_distance _ _) kR_125 oR_distance dR_look_253 rfl rfl (by decide) (Nat.le_of_ble_eq_true rfl) ?_
                    refine x_icmp_ge 264 259 dR_look_256 (by decide) rfl (fun h256 => ?_) (fun h256 => ?_)
                    · skip
                      refine x_iload 266 dR_look_264 rfl rfl ?_
                      refine x_istore 268 dR_look_266 rfl (by decide) rfl ?_
                      refine x_iinc 271 dR_look_268 rfl rfl (by decide) rfl ?_
                      refine x_goto 117 dR_look_271 (by decide) ?_
                      exact ih _ _ _ _ _ _ _ _ (by rw [i_inc (by omega) (by omega)]; omega) (by rw [i_inc (by omega) (by omega)]; omega) (by simp only [lk2, if_pos h159, if_pos (show lkd A i q = le from h170), if_neg h175, if_pos h182, if_pos h194, if_pos h213, if_neg h231, if_pos h256])
                    · skip
                      refine x_iload 261 dR_look_259 rfl rfl ?_
                      refine x_goto 266 dR_look_261 (by decide) ?_
                      refine x_istore 268 dR_look_266 rfl (by decide) rfl ?_
                      refine x_iinc 271 dR_look_268 rfl rfl (by decide) rfl ?_
                      refine x_goto 117 dR_look_271 (by decide) ?_
                      exact ih _ _ _ _ _ _ _ _ (by rw [i_inc (by omega) (by omega)]; omega) (by rw [i_inc (by omega) (by omega)]; omega) (by simp only [lk2, if_pos h159, if_pos (show lkd A i q = le from h170), if_neg h175, if_pos h182, if_pos h194, if_pos h213, if_neg h231, if_neg h256])
              · skip
                refine x_iload 199 dR_look_197 rfl rfl ?_
                refine x_iload 201 dR_look_199 rfl rfl ?_
                refine x_icmp_le 208 204 dR_look_201 (by decide) rfl (fun h201 => ?_) (fun h201 => ?_)
                · skip
                  refine x_iconst 0 209 dR_look_208 rfl rfl ?_
                  refine x_istore 211 dR_look_209 rfl (by decide) rfl ?_
                  refine x_iload 213 dR_look_211 rfl rfl ?_
                  refine x_if_ne 221 216 dR_look_213 (by decide) rfl (fun h213 => ?_) (fun h213 => ?_)
                  · skip
                    refine x_iload 223 dR_look_221 rfl rfl ?_
                    refine x_istore 225 dR_look_223 rfl (by decide) rfl ?_
                    refine x_iload 227 dR_look_225 rfl rfl ?_
                    refine x_istore 229 dR_look_227 rfl (by decide) rfl ?_
                    refine x_iload 231 dR_look_229 rfl rfl ?_
                    refine x_if_eq 259 234 dR_look_231 (by decide) rfl (fun h231 => ?_) (fun h231 => ?_)
                    · skip
                      refine x_iload 261 dR_look_259 rfl rfl ?_
                      refine x_goto 266 dR_look_261 (by decide) ?_
                      refine x_istore 268 dR_look_266 rfl (by decide) rfl ?_
                      refine x_iinc 271 dR_look_268 rfl rfl (by decide) rfl ?_
                      refine x_goto 117 dR_look_271 (by decide) ?_
                      exact ih _ _ _ _ _ _ _ _ (by rw [i_inc (by omega) (by omega)]; omega) (by rw [i_inc (by omega) (by omega)]; omega) (by simp only [lk2, if_pos h159, if_pos (show lkd A i q = le from h170), if_neg h175, if_pos h182, if_neg h194, if_pos h201, if_neg h213, if_pos h231])
                    · skip
                      refine x_iload 236 dR_look_234 rfl rfl ?_
                      refine x_aload_n 237 dR_look_236 rfl rfl ?_
                      refine x_get _ 240 fR_51 dR_look_237 rfl rfl rfl ?_
                      refine x_iload_n 241 dR_look_240 rfl rfl ?_
                      refine x_iald 242 dR_look_241 rfl rfl hi2 ?_
                      refine x_fSv 245 (cR_distance _ _) kR_125 oR_distance dR_look_242 rfl rfl (by decide) (Nat.le_of_ble_eq_true rfl) ?_
                      refine x_iload 247 dR_look_245 rfl rfl ?_
                      refine x_aload_n 248 dR_look_247 rfl rfl ?_
                      refine x_get _ 251 fR_51 dR_look_248 rfl rfl rfl ?_
                      refine x_iload_n 252 dR_look_251 rfl rfl ?_
                      refine x_iald 253 dR_look_252 rfl rfl hi2 ?_
                      refine x_fSv 256 (cR_distance _ _) kR_125 oR_distance dR_look_253 rfl rfl (by decide) (Nat.le_of_ble_eq_true rfl) ?_
                      refine x_icmp_ge 264 259 dR_look_256 (by decide) rfl (fun h256 => ?_) (fun h256 => ?_)
                      · skip
                        refine x_iload 266 dR_look_264 rfl rfl ?_
                        refine x_istore 268 dR_look_266 rfl (by decide) rfl ?_
                        refine x_iinc 271 dR_look_268 rfl rfl (by decide) rfl ?_
                        refine x_goto 117 dR_look_271 (by decide) ?_
                        exact ih _ _ _ _ _ _ _ _ (by rw [i_inc (by omega) (by omega)]; omega) (by rw [i_inc (by omega) (by omega)]; omega) (by simp only [lk2, if_pos h159, if_pos (show lkd A i q = le from h170), if_neg h175, if_pos h182, if_neg h194, if_pos h201, if_neg h213, if_neg h231, if_pos h256])
                      · skip
                        refine x_iload 261 dR_look_259 rfl rfl ?_
                        refine x_goto 266 dR_look_261 (by decide) ?_
                        refine x_istore 268 dR_look_266 rfl (by decide) rfl ?_
                        refine x_iinc 271 dR_look_268 rfl rfl (by decide) rfl ?_
                        refine x_goto 117 dR_look_271 (by decide) ?_
                        exact ih _ _ _ _ _ _ _ _ (by rw [i_inc (by omega) (by omega)]; omega) (by rw [i_inc (by omega) (by omega)]; omega) (by simp only [lk2, if_pos h159, if_pos (show lkd A i q = le from h170), if_neg h175, if_pos h182, if_neg h194, if_pos h201, if_neg h213, if_neg h231, if_neg h256])
                  · skip
                    refine x_iload 218 dR_look_216 rfl rfl ?_
                    refine x_goto 223 dR_look_218 (by decide) ?_
                    refine x_istore 225 dR_look_223 rfl (by decide) rfl ?_
                    refine x_iload 227 dR_look_225 rfl rfl ?_
                    refine x_istore 229 dR_look_227 rfl (by decide) rfl ?_
                    refine x_iload 231 dR_look_229 rfl rfl ?_
                    refine x_if_eq 259 234 dR_look_231 (by decide) rfl (fun h231 => ?_) (fun h231 => ?_)
                    · skip
                      refine x_iload 261 dR_look_259 rfl rfl ?_
                      refine x_goto 266 dR_look_261 (by decide) ?_
                      refine x_istore 268 dR_look_266 rfl (by decide) rfl ?_
                      refine x_iinc 271 dR_look_268 rfl rfl (by decide) rfl ?_
                      refine x_goto 117 dR_look_271 (by decide) ?_
                      exact ih _ _ _ _ _ _ _ _ (by rw [i_inc (by omega) (by omega)]; omega) (by rw [i_inc (by omega) (by omega)]; omega) (by simp only [lk2, if_pos h159, if_pos (show lkd A i q = le from h170), if_neg h175, if_pos h182, if_neg h194, if_pos h201, if_pos h213, if_pos h231])
                    · skip
                      refine x_iload 236 dR_look_234 rfl rfl ?_
                      refine x_aload_n 237 dR_look_236 rfl rfl ?_
                      refine x_get _ 240 fR_51 dR_look_237 rfl rfl rfl ?_
                      refine x_iload_n 241 dR_look_240 rfl rfl ?_
                      refine x_iald 242 dR_look_241 rfl rfl hi2 ?_
                      refine x_fSv 245 (cR_distance _ _) kR_125 oR_distance dR_look_242 rfl rfl (by decide) (Nat.le_of_ble_eq_true rfl) ?_
                      refine x_iload 247 dR_look_245 rfl rfl ?_
                      refine x_aload_n 248 dR_look_247 rfl rfl ?_
                      refine x_get _ 251 fR_51 dR_look_248 rfl rfl rfl ?_
                      refine x_iload_n 252 dR_look_251 rfl rfl ?_
                      refine x_iald 253 dR_look_252 rfl rfl hi2 ?_
                      refine x_fSv 256 (cR_distance _ _) kR_125 oR_distance dR_look_253 rfl rfl (by decide) (Nat.le_of_ble_eq_true rfl) ?_
                      refine x_icmp_ge 264 259 dR_look_256 (by decide) rfl (fun h256 => ?_) (fun h256 => ?_)
                      · skip
                        refine x_iload 266 dR_look_264 rfl rfl ?_
                        refine x_istore 268 dR_look_266 rfl (by decide) rfl ?_
                        refine x_iinc 271 dR_look_268 rfl rfl (by decide) rfl ?_
                        refine x_goto 117 dR_look_271 (by decide) ?_
                        exact ih _ _ _ _ _ _ _ _ (by rw [i_inc (by omega) (by omega)]; omega) (by rw [i_inc (by omega) (by omega)]; omega) (by simp only [lk2, if_pos h159, if_pos (show lkd A i q = le from h170), if_neg h175, if_pos h182, if_neg h194, if_pos h201, if_pos h213, if_neg h231, if_pos h256])
                      · skip
                        refine x_iload 261 dR_look_259 rfl rfl ?_
                        refine x_goto 266 dR_look_261 (by decide) ?_
                        refine x_istore 268 dR_look_266 rfl (by decide) rfl ?_
                        refine x_iinc 271 dR_look_268 rfl rfl (by decide) rfl ?_
                        refine x_goto 117 dR_look_271 (by decide) ?_
                        exact ih _ _ _ _ _ _ _ _ (by rw [i_inc (by omega) (by omega)]; omega) (by rw [i_inc (by omega) (by omega)]; omega) (by simp only [lk2, if_pos h159, if_pos (show lkd A i q = le from h170), if_neg h175, if_pos h182, if_neg h194, if_pos h201, if_pos h213, if_neg h231, if_neg h256])
                · skip
                  refine x_iconst 1 205 dR_look_204 rfl rfl ?_
                  refine x_goto 209 dR_look_205 (by decide) ?_
                  refine x_istore 211 dR_look_209 rfl (by decide) rfl ?_
                  refine x_iload 213 dR_look_211 rfl rfl ?_
                  refine x_if_ne 221 216 dR_look_213 (by decide) rfl (fun h213 => ?_) (fun h213 => ?_)
                  · skip
                    refine x_iload 223 dR_look_221 rfl rfl ?_
                    refine x_istore 225 dR_look_223 rfl (by decide) rfl ?_
                    refine x_iload 227 dR_look_225 rfl rfl ?_
                    refine x_istore 229 dR_look_227 rfl (by decide) rfl ?_
                    refine x_iload 231 dR_look_229 rfl rfl ?_
                    refine x_if_eq 259 234 dR_look_231 (by decide) rfl (fun h231 => ?_) (fun h231 => ?_)
                    · skip
                      refine x_iload 261 dR_look_259 rfl rfl ?_
                      refine x_goto 266 dR_look_261 (by decide) ?_
                      refine x_istore 268 dR_look_266 rfl (by decide) rfl ?_
                      refine x_iinc 271 dR_look_268 rfl rfl (by decide) rfl ?_
                      refine x_goto 117 dR_look_271 (by decide) ?_
                      exact ih _ _ _ _ _ _ _ _ (by rw [i_inc (by omega) (by omega)]; omega) (by rw [i_inc (by omega) (by omega)]; omega) (by simp only [lk2, if_pos h159, if_pos (show lkd A i q = le from h170), if_neg h175, if_pos h182, if_neg h194, if_neg h201, if_neg h213, if_pos h231])
                    · skip
                      refine x_iload 236 dR_look_234 rfl rfl ?_
                      refine x_aload_n 237 dR_look_236 rfl rfl ?_
                      refine x_get _ 240 fR_51 dR_look_237 rfl rfl rfl ?_
                      refine x_iload_n 241 dR_look_240 rfl rfl ?_
                      refine x_iald 242 dR_look_241 rfl rfl hi2 ?_
                      refine x_fSv 245 (cR_distance _ _) kR_125 oR_distance dR_look_242 rfl rfl (by decide) (Nat.le_of_ble_eq_true rfl) ?_
                      refine x_iload 247 dR_look_245 rfl rfl ?_
                      refine x_aload_n 248 dR_look_247 rfl rfl ?_
                      refine x_get _ 251 fR_51 dR_look_248 rfl rfl rfl ?_
                      refine x_iload_n 252 dR_look_251 rfl rfl ?_
                      refine x_iald 253 dR_look_252 rfl rfl hi2 ?_
                      refine x_fSv 256 (cR_distance _ _) kR_125 oR_distance dR_look_253 rfl rfl (by decide) (Nat.le_of_ble_eq_true rfl) ?_
                      refine x_icmp_ge 264 259 dR_look_256 (by decide) rfl (fun h256 => ?_) (fun h256 => ?_)
                      · skip
                        refine x_iload 266 dR_look_264 rfl rfl ?_
                        refine x_istore 268 dR_look_266 rfl (by decide) rfl ?_
                        refine x_iinc 271 dR_look_268 rfl rfl (by decide) rfl ?_
                        refine x_goto 117 dR_look_271 (by decide) ?_
                        exact ih _ _ _ _ _ _ _ _ (by rw [i_inc (by omega) (by omega)]; omega) (by rw [i_inc (by omega) (by omega)]; omega) (by simp only [lk2, if_pos h159, if_pos (show lkd A i q = le from h170), if_neg h175, if_pos h182, if_neg h194, if_neg h201, if_neg h213, if_neg h231, if_pos h256])
                      · skip
                        refine x_iload 261 dR_look_259 rfl rfl ?_
                        refine x_goto 266 dR_look_261 (by decide) ?_
                        refine x_istore 268 dR_look_266 rfl (by decide) rfl ?_
                        refine x_iinc 271 dR_look_268 rfl rfl (by decide) rfl ?_
                        refine x_goto 117 dR_look_271 (by decide) ?_
                        exact ih _ _ _ _ _ _ _ _ (by rw [i_inc (by omega) (by omega)]; omega) (by rw [i_inc (by omega) (by omega)]; omega) (by simp only [lk2, if_pos h159, if_pos (show lkd A i q = le from h170), if_neg h175, if_pos h182, if_neg h194, if_neg h201, if_neg h213, if_neg h231, if_neg h256])
                  · skip
                    refine x_iload 218 dR_look_216 rfl rfl ?_
                    refine x_goto 223 dR_look_218 (by decide) ?_
                    refine x_istore 225 dR_look_223 rfl (by decide) rfl ?_
                    refine x_iload 227 dR_look_225 rfl rfl ?_
                    refine x_istore 229 dR_look_227 rfl (by decide) rfl ?_
                    refine x_iload 231 dR_look_229 rfl rfl ?_
                    refine x_if_eq 259 234 dR_look_231 (by decide) rfl (fun h231 => ?_) (fun h231 => ?_)
                    · skip
                      refine x_iload 261 dR_look_259 rfl rfl ?_
                      refine x_goto 266 dR_look_261 (by decide) ?_
                      refine x_istore 268 dR_look_266 rfl (by decide) rfl ?_
                      refine x_iinc 271 dR_look_268 rfl rfl (by decide) rfl ?_
                      refine x_goto 117 dR_look_271 (by decide) ?_
                      exact ih _ _ _ _ _ _ _ _ (by rw [i_inc (by omega) (by omega)]; omega) (by rw [i_inc (by omega) (by omega)]; omega) (by simp only [lk2, if_pos h159, if_pos (show lkd A i q = le from h170), if_neg h175, if_pos h182, if_neg h194, if_neg h201, if_pos h213, if_pos h231])
                    · skip
                      refine x_iload 236 dR_look_234 rfl rfl ?_
                      refine x_aload_n 237 dR_look_236 rfl rfl ?_
                      refine x_get _ 240 fR_51 dR_look_237 rfl rfl rfl ?_
                      refine x_iload_n 241 dR_look_240 rfl rfl ?_
                      refine x_iald 242 dR_look_241 rfl rfl hi2 ?_
                      refine x_fSv 245 (cR_distance _ _) kR_125 oR_distance dR_look_242 rfl rfl (by decide) (Nat.le_of_ble_eq_true rfl) ?_
                      refine x_iload 247 dR_look_245 rfl rfl ?_
                      refine x_aload_n 248 dR_look_247 rfl rfl ?_
                      refine x_get _ 251 fR_51 dR_look_248 rfl rfl rfl ?_
                      refine x_iload_n 252 dR_look_251 rfl rfl ?_
                      refine x_iald 253 dR_look_252 rfl rfl hi2 ?_
                      refine x_fSv 256 (cR_distance _ _) kR_125 oR_distance dR_look_253 rfl rfl (by decide) (Nat.le_of_ble_eq_true rfl) ?_
                      refine x_icmp_ge 264 259 dR_look_256 (by decide) rfl (fun h256 => ?_) (fun h256 => ?_)
                      · skip
                        refine x_iload 266 dR_look_264 rfl rfl ?_
                        refine x_istore 268 dR_look_266 rfl (by decide) rfl ?_
                        refine x_iinc 271 dR_look_268 rfl rfl (by decide) rfl ?_
                        refine x_goto 117 dR_look_271 (by decide) ?_
                        exact ih _ _ _ _ _ _ _ _ (by rw [i_inc (by omega) (by omega)]; omega) (by rw [i_inc (by omega) (by omega)]; omega) (by simp only [lk2, if_pos h159, if_pos (show lkd A i q = le from h170), if_neg h175, if_pos h182, if_neg h194, if_neg h201, if_pos h213, if_neg h231, if_pos h256])
                      · skip
                        refine x_iload 261 dR_look_259 rfl rfl ?_
                        refine x_goto 266 dR_look_261 (by decide) ?_
                        refine x_istore 268 dR_look_266 rfl (by decide) rfl ?_
                        refine x_iinc 271 dR_look_268 rfl rfl (by decide) rfl ?_
                        refine x_goto 117 dR_look_271 (by decide) ?_
                        exact ih _ _ _ _ _ _ _ _ (by rw [i_inc (by omega) (by omega)]; omega) (by rw [i_inc (by omega) (by omega)]; omega) (by simp only [lk2, if_pos h159, if_pos (show lkd A i q = le from h170), if_neg h175, if_pos h182, if_neg h194, if_neg h201, if_pos h213, if_neg h231, if_neg h256])
            · skip
              refine x_iconst 1 186 dR_look_185 rfl rfl ?_
              refine x_goto 190 dR_look_186 (by decide) ?_
              refine x_istore 192 dR_look_190 rfl (by decide) rfl ?_
              refine x_iload 194 dR_look_192 rfl rfl ?_
              refine x_if_eq 208 197 dR_look_194 (by decide) rfl (fun h194 => ?_) (fun h194 => ?_)
              · skip
                refine x_iconst 0 209 dR_look_208 rfl rfl ?_
                refine x_istore 211 dR_look_209 rfl (by decide) rfl ?_
                refine x_iload 213 dR_look_211 rfl rfl ?_
                refine x_if_ne 221 216 dR_look_213 (by decide) rfl (fun h213 => ?_) (fun h213 => ?_)
                · skip
                  refine x_iload 223 dR_look_221 rfl rfl ?_
                  refine x_istore 225 dR_look_223 rfl (by decide) rfl ?_
                  refine x_iload 227 dR_look_225 rfl rfl ?_
                  refine x_istore 229 dR_look_227 rfl (by decide) rfl ?_
                  refine x_iload 231 dR_look_229 rfl rfl ?_
                  refine x_if_eq 259 234 dR_look_231 (by decide) rfl (fun h231 => ?_) (fun h231 => ?_)
                  · skip
                    refine x_iload 261 dR_look_259 rfl rfl ?_
                    refine x_goto 266 dR_look_261 (by decide) ?_
                    refine x_istore 268 dR_look_266 rfl (by decide) rfl ?_
                    refine x_iinc 271 dR_look_268 rfl rfl (by decide) rfl ?_
                    refine x_goto 117 dR_look_271 (by decide) ?_
                    exact ih _ _ _ _ _ _ _ _ (by rw [i_inc (by omega) (by omega)]; omega) (by rw [i_inc (by omega) (by omega)]; omega) (by simp only [lk2, if_pos h159, if_pos (show lkd A i q = le from h170), if_neg h175, if_neg h182, if_pos h194, if_neg h213, if_pos h231])
                  · skip
                    refine x_iload 236 dR_look_234 rfl rfl ?_
                    refine x_aload_n 237 dR_look_236 rfl rfl ?_
                    refine x_get _ 240 fR_51 dR_look_237 rfl rfl rfl ?_
                    refine x_iload_n 241 dR_look_240 rfl rfl ?_
                    refine x_iald 242 dR_look_241 rfl rfl hi2 ?_
                    refine x_fSv 245 (cR_distance _ _) kR_125 oR_distance dR_look_242 rfl rfl (by decide) (Nat.le_of_ble_eq_true rfl) ?_
                    refine x_iload 247 dR_look_245 rfl rfl ?_
                    refine x_aload_n 248 dR_look_247 rfl rfl ?_
                    refine x_get _ 251 fR_51 dR_look_248 rfl rfl rfl ?_
                    refine x_iload_n 252 dR_look_251 rfl rfl ?_
                    refine x_iald 253 dR_look_252 rfl rfl hi2 ?_
                    refine x_fSv 256 (cR_distance _ _) kR_125 oR_distance dR_look_253 rfl rfl (by decide) (Nat.le_of_ble_eq_true rfl) ?_
                    refine x_icmp_ge 264 259 dR_look_256 (by decide) rfl (fun h256 => ?_) (fun h256 => ?_)
                    · skip
                      refine x_iload 266 dR_look_264 rfl rfl ?_
                      refine x_istore 268 dR_look_266 rfl (by decide) rfl ?_
                      refine x_iinc 271 dR_look_268 rfl rfl (by decide) rfl ?_
                      refine x_goto 117 dR_look_271 (by decide) ?_
                      exact ih _ _ _ _ _ _ _ _ (by rw [i_inc (by omega) (by omega)]; omega) (by rw [i_inc (by omega) (by omega)]; omega) (by simp only [lk2, if_pos h159, if_pos (show lkd A i q = le from h170), if_neg h175, if_neg h182, if_pos h194, if_neg h213, if_neg h231, if_pos h256])
                    · skip
                      refine x_iload 261 dR_look_259 rfl rfl ?_
                      refine x_goto 266 dR_look_261 (by decide) ?_
                      refine x_istore 268 dR_look_266 rfl (by decide) rfl ?_
                      refine x_iinc 271 dR_look_268 rfl rfl (by decide) rfl ?_
                      refine x_goto 117 dR_look_271 (by decide) ?_
                      exact ih _ _ _ _ _ _ _ _ (by rw [i_inc (by omega) (by omega)]; omega) (by rw [i_inc (by omega) (by omega)]; omega) (by simp only [lk2, if_pos h159, if_pos (show lkd A i q = le from h170), if_neg h175, if_neg h182, if_pos h194, if_neg h213, if_neg h231, if_neg h256])
                · skip
                  refine x_iload 218 dR_look_216 rfl rfl ?_
                  refine x_goto 223 dR_look_218 (by decide) ?_
                  refine x_istore 225 dR_look_223 rfl (by decide) rfl ?_
                  refine x_iload 227 dR_look_225 rfl rfl ?_
                  refine x_istore 229 dR_look_227 rfl (by decide) rfl ?_
                  refine x_iload 231 dR_look_229 rfl rfl ?_
                  refine x_if_eq 259 234 dR_look_231 (by decide) rfl (fun h231 => ?_) (fun h231 => ?_)
                  · skip
                    refine x_iload 261 dR_look_259 rfl rfl ?_
                    refine x_goto 266 dR_look_261 (by decide) ?_
                    refine x_istore 268 dR_look_266 rfl (by decide) rfl ?_
                    refine x_iinc 271 dR_look_268 rfl rfl (by decide) rfl ?_
                    refine x_goto 117 dR_look_271 (by decide) ?_
                    exact ih _ _ _ _ _ _ _ _ (by rw [i_inc (by omega) (by omega)]; omega) (by rw [i_inc (by omega) (by omega)]; omega) (by simp only [lk2, if_pos h159, if_pos (show lkd A i q = le from h170), if_neg h175, if_neg h182, if_pos h194, if_pos h213, if_pos h231])
                  · skip
                    refine x_iload 236 dR_look_234 rfl rfl ?_
                    refine x_aload_n 237 dR_look_236 rfl rfl ?_
                    refine x_get _ 240 fR_51 dR_look_237 rfl rfl rfl ?_
                    refine x_iload_n 241 dR_look_240 rfl rfl ?_
                    refine x_iald 242 dR_look_241 rfl rfl hi2 ?_
                    refine x_fSv 245 (cR_distance _ _) kR_125 oR_distance dR_look_242 rfl rfl (by decide) (Nat.le_of_ble_eq_true rfl) ?_
                    refine x_iload 247 dR_look_245 rfl rfl ?_
                    refine x_aload_n 248 dR_look_247 rfl rfl ?_
                    refine x_get _ 251 fR_51 dR_look_248 rfl rfl rfl ?_
                    refine x_iload_n 252 dR_look_251 rfl rfl ?_
                    refine x_iald 253 dR_look_252 rfl rfl hi2 ?_
                    refine x_fSv 256 (cR_distance _ _) kR_125 oR_distance dR_look_253 rfl rfl (by decide) (Nat.le_of_ble_eq_true rfl) ?_
                    refine x_icmp_ge 264 259 dR_look_256 (by decide) rfl (fun h256 => ?_) (fun h256 => ?_)
                    · skip
                      refine x_iload 266 dR_look_264 rfl rfl ?_
                      refine x_istore 268 dR_look_266 rfl (by decide) rfl ?_
                      refine x_iinc 271 dR_look_268 rfl rfl (by decide) rfl ?_
                      refine x_goto 117 dR_look_271 (by decide) ?_
                      exact ih _ _ _ _ _ _ _ _ (by rw [i_inc (by omega) (by omega)]; omega) (by rw [i_inc (by omega) (by omega)]; omega) (by simp only [lk2, if_pos h159, if_pos (show lkd A i q = le from h170), if_neg h175, if_neg h182, if_pos h194, if_pos h213, if_neg h231, if_pos h256])
                    · skip
                      refine x_iload 261 dR_look_259 rfl rfl ?_
                      refine x_goto 266 dR_look_261 (by decide) ?_
                      refine x_istore 268 dR_look_266 rfl (by decide) rfl ?_
                      refine x_iinc 271 dR_look_268 rfl rfl (by decide) rfl ?_
                      refine x_goto 117 dR_look_271 (by decide) ?_
                      exact ih _ _ _ _ _ _ _ _ (by rw [i_inc (by omega) (by omega)]; omega) (by rw [i_inc (by omega) (by omega)]; omega) (by simp only [lk2, if_pos h159, if_pos (show lkd A i q = le from h170), if_neg h175, if_neg h182, if_pos h194, if_pos h213, if_neg h231, if_neg h256])
              · skip
                refine x_iload 199 dR_look_197 rfl rfl ?_
                refine x_iload 201 dR_look_199 rfl rfl ?_
                refine x_icmp_le 208 204 dR_look_201 (by decide) rfl (fun h201 => ?_) (fun h201 => ?_)
                · skip
                  refine x_iconst 0 209 dR_look_208 rfl rfl ?_
                  refine x_istore 211 dR_look_209 rfl (by decide) rfl ?_
                  refine x_iload 213 dR_look_211 rfl rfl ?_
                  refine x_if_ne 221 216 dR_look_213 (by decide) rfl (fun h213 => ?_) (fun h213 => ?_)
                  · skip
                    refine x_iload 223 dR_look_221 rfl rfl ?_
                    refine x_istore 225 dR_look_223 rfl (by decide) rfl ?_
                    refine x_iload 227 dR_look_225 rfl rfl ?_
                    refine x_istore 229 dR_look_227 rfl (by decide) rfl ?_
                    refine x_iload 231 dR_look_229 rfl rfl ?_
                    refine x_if_eq 259 234 dR_look_231 (by decide) rfl (fun h231 => ?_) (fun h231 => ?_)
                    · skip
                      refine x_iload 261 dR_look_259 rfl rfl ?_
                      refine x_goto 266 dR_look_261 (by decide) ?_
                      refine x_istore 268 dR_look_266 rfl (by decide) rfl ?_
                      refine x_iinc 271 dR_look_268 rfl rfl (by decide) rfl ?_
                      refine x_goto 117 dR_look_271 (by decide) ?_
                      exact ih _ _ _ _ _ _ _ _ (by rw [i_inc (by omega) (by omega)]; omega) (by rw [i_inc (by omega) (by omega)]; omega) (by simp only [lk2, if_pos h159, if_pos (show lkd A i q = le from h170), if_neg h175, if_neg h182, if_neg h194, if_pos h201, if_neg h213, if_pos h231])
                    · skip
                      refine x_iload 236 dR_look_234 rfl rfl ?_
                      refine x_aload_n 237 dR_look_236 rfl rfl ?_
                      refine x_get _ 240 fR_51 dR_look_237 rfl rfl rfl ?_
                      refine x_iload_n 241 dR_look_240 rfl rfl ?_
                      refine x_iald 242 dR_look_241 rfl rfl hi2 ?_
                      refine x_fSv 245 (cR_distance _ _) kR_125 oR_distance dR_look_242 rfl rfl (by decide) (Nat.le_of_ble_eq_true rfl) ?_
                      refine x_iload 247 dR_look_245 rfl rfl ?_
                      refine x_aload_n 248 dR_look_247 rfl rfl ?_
                      refine x_get _ 251 fR_51 dR_look_248 rfl rfl rfl ?_
                      refine x_iload_n 252 dR_look_251 rfl rfl ?_
                      refine x_iald 253 dR_look_252 rfl rfl hi2 ?_
                      refine x_fSv 256 (cR_distance _ _) kR_125 oR_distance dR_look_253 rfl rfl (by decide) (Nat.le_of_ble_eq_true rfl) ?_
                      refine x_icmp_ge 264 259 dR_look_256 (by decide) rfl (fun h256 => ?_) (fun h256 => ?_)
                      · skip
                        refine x_iload 266 dR_look_264 rfl rfl ?_
                        refine x_istore 268 dR_look_266 rfl (by decide) rfl ?_
                        refine x_iinc 271 dR_look_268 rfl rfl (by decide) rfl ?_
                        refine x_goto 117 dR_look_271 (by decide) ?_
                        exact ih _ _ _ _ _ _ _ _ (by rw [i_inc (by omega) (by omega)]; omega) (by rw [i_inc (by omega) (by omega)]; omega) (by simp only [lk2, if_pos h159, if_pos (show lkd A i q = le from h170), if_neg h175, if_neg h182, if_neg h194, if_pos h201, if_neg h213, if_neg h231, if_pos h256])
                      · skip
                        refine x_iload 261 dR_look_259 rfl rfl ?_
                        refine x_goto 266 dR_look_261 (by decide) ?_
                        refine x_istore 268 dR_look_266 rfl (by decide) rfl ?_
                        refine x_iinc 271 dR_look_268 rfl rfl (by decide) rfl ?_
                        refine x_goto 117 dR_look_271 (by decide) ?_
                        exact ih _ _ _ _ _ _ _ _ (by rw [i_inc (by omega) (by omega)]; omega) (by rw [i_inc (by omega) (by omega)]; omega) (by simp only [lk2, if_pos h159, if_pos (show lkd A i q = le from h170), if_neg h175, if_neg h182, if_neg h194, if_pos h201, if_neg h213, if_neg h231, if_neg h256])
                  · skip
                    refine x_iload 218 dR_look_216 rfl rfl ?_
                    refine x_goto 223 dR_look_218 (by decide) ?_
                    refine x_istore 225 dR_look_223 rfl (by decide) rfl ?_
                    refine x_iload 227 dR_look_225 rfl rfl ?_
                    refine x_istore 229 dR_look_227 rfl (by decide) rfl ?_
                    refine x_iload 231 dR_look_229 rfl rfl ?_
                    refine x_if_eq 259 234 dR_look_231 (by decide) rfl (fun h231 => ?_) (fun h231 => ?_)
                    · skip
                      refine x_iload 261 dR_look_259 rfl rfl ?_
                      refine x_goto 266 dR_look_261 (by decide) ?_
                      refine x_istore 268 dR_look_266 rfl (by decide) rfl ?_
                      refine x_iinc 271 dR_look_268 rfl rfl (by decide) rfl ?_
                      refine x_goto 117 dR_look_271 (by decide) ?_
                      exact ih _ _ _ _ _ _ _ _ (by rw [i_inc (by omega) (by omega)]; omega) (by rw [i_inc (by omega) (by omega)]; omega) (by simp only [lk2, if_pos h159, if_pos (show lkd A i q = le from h170), if_neg h175, if_neg h182, if_neg h194, if_pos h201, if_pos h213, if_pos h231])
                    · skip
                      refine x_iload 236 dR_look_234 rfl rfl ?_
                      refine x_aload_n 237 dR_look_236 rfl rfl ?_
                      refine x_get _ 240 fR_51 dR_look_237 rfl rfl rfl ?_
                      refine x_iload_n 241 dR_look_240 rfl rfl ?_
                      refine x_iald 242 dR_look_241 rfl rfl hi2 ?_
                      refine x_fSv 245 (cR_distance _ _) kR_125 oR_distance dR_look_242 rfl rfl (by decide) (Nat.le_of_ble_eq_true rfl) ?_
                      refine x_iload 247 dR_look_245 rfl rfl ?_
                      refine x_aload_n 248 dR_look_247 rfl rfl ?_
                      refine x_get _ 251 fR_51 dR_look_248 rfl rfl rfl ?_
                      refine x_iload_n 252 dR_look_251 rfl rfl ?_
                      refine x_iald 253 dR_look_252 rfl rfl hi2 ?_
                      refine x_fSv 256 (cR_distance _ _) kR_125 oR_distance dR_look_253 rfl rfl (by decide) (Nat.le_of_ble_eq_true rfl) ?_
                      refine x_icmp_ge 264 259 dR_look_256 (by decide) rfl (fun h256 => ?_) (fun h256 => ?_)
                      · skip
                        refine x_iload 266 dR_look_264 rfl rfl ?_
                        refine x_istore 268 dR_look_266 rfl (by decide) rfl ?_
                        refine x_iinc 271 dR_look_268 rfl rfl (by decide) rfl ?_
                        refine x_goto 117 dR_look_271 (by decide) ?_
                        exact ih _ _ _ _ _ _ _ _ (by rw [i_inc (by omega) (by omega)]; omega) (by rw [i_inc (by omega) (by omega)]; omega) (by simp only [lk2, if_pos h159, if_pos (show lkd A i q = le from h170), if_neg h175, if_neg h182, if_neg h194, if_pos h201, if_pos h213, if_neg h231, if_pos h256])
                      · skip
                        refine x_iload 261 dR_look_259 rfl rfl ?_
                        refine x_goto 266 dR_look_261 (by decide) ?_
                        refine x_istore 268 dR_look_266 rfl (by decide) rfl ?_
                        refine x_iinc 271 dR_look_268 rfl rfl (by decide) rfl ?_
                        refine x_goto 117 dR_look_271 (by decide) ?_
                        exact ih _ _ _ _ _ _ _ _ (by rw [i_inc (by omega) (by omega)]; omega) (by rw [i_inc (by omega) (by omega)]; omega) (by simp only [lk2, if_pos h159, if_pos (show lkd A i q = le from h170), if_neg h175, if_neg h182, if_neg h194, if_pos h201, if_pos h213, if_neg h231, if_neg h256])
                · skip
                  refine x_iconst 1 205 dR_look_204 rfl rfl ?_
                  refine x_goto 209 dR_look_205 (by decide) ?_
                  refine x_istore 211 dR_look_209 rfl (by decide) rfl ?_
                  refine x_iload 213 dR_look_211 rfl rfl ?_
                  refine x_if_ne 221 216 dR_look_213 (by decide) rfl (fun h213 => ?_) (fun h213 => ?_)
                  · skip
                    refine x_iload 223 dR_look_221 rfl rfl ?_
                    refine x_istore 225 dR_look_223 rfl (by decide) rfl ?_
                    refine x_iload 227 dR_look_225 rfl rfl ?_
                    refine x_istore 229 dR_look_227 rfl (by decide) rfl ?_
                    refine x_iload 231 dR_look_229 rfl rfl ?_
                    refine x_if_eq 259 234 dR_look_231 (by decide) rfl (fun h231 => ?_) (fun h231 => ?_)
                    · skip
                      refine x_iload 261 dR_look_259 rfl rfl ?_
                      refine x_goto 266 dR_look_261 (by decide) ?_
                      refine x_istore 268 dR_look_266 rfl (by decide) rfl ?_
                      refine x_iinc 271 dR_look_268 rfl rfl (by decide) rfl ?_
                      refine x_goto 117 dR_look_271 (by decide) ?_
                      exact ih _ _ _ _ _ _ _ _ (by rw [i_inc (by omega) (by omega)]; omega) (by rw [i_inc (by omega) (by omega)]; omega) (by simp only [lk2, if_pos h159, if_pos (show lkd A i q = le from h170), if_neg h175, if_neg h182, if_neg h194, if_neg h201, if_neg h213, if_pos h231])
                    · skip
                      refine x_iload 236 dR_look_234 rfl rfl ?_
                      refine x_aload_n 237 dR_look_236 rfl rfl ?_
                      refine x_get _ 240 fR_51 dR_look_237 rfl rfl rfl ?_
                      refine x_iload_n 241 dR_look_240 rfl rfl ?_
                      refine x_iald 242 dR_look_241 rfl rfl hi2 ?_
                      refine x_fSv 245 (cR_distance _ _) kR_125 oR_distance dR_look_242 rfl rfl (by decide) (Nat.le_of_ble_eq_true rfl) ?_
                      refine x_iload 247 dR_look_245 rfl rfl ?_
                      refine x_aload_n 248 dR_look_247 rfl rfl ?_
                      refine x_get _ 251 fR_51 dR_look_248 rfl rfl rfl ?_
                      refine x_iload_n 252 dR_look_251 rfl rfl ?_
                      refine x_iald 253 dR_look_252 rfl rfl hi2 ?_
                      refine x_fSv 256 (cR_distance _ _) kR_125 oR_distance dR_look_253 rfl rfl (by decide) (Nat.le_of_ble_eq_true rfl) ?_
                      refine x_icmp_ge 264 259 dR_look_256 (by decide) rfl (fun h256 => ?_) (fun h256 => ?_)
                      · skip
                        refine x_iload 266 dR_look_264 rfl rfl ?_
                        refine x_istore 268 dR_look_266 rfl (by decide) rfl ?_
                        refine x_iinc 271 dR_look_268 rfl rfl (by decide) rfl ?_
                        refine x_goto 117 dR_look_271 (by decide) ?_
                        exact ih _ _ _ _ _ _ _ _ (by rw [i_inc (by omega) (by omega)]; omega) (by rw [i_inc (by omega) (by omega)]; omega) (by simp only [lk2, if_pos h159, if_pos (show lkd A i q = le from h170), if_neg h175, if_neg h182, if_neg h194, if_neg h201, if_neg h213, if_neg h231, if_pos h256])
                      · skip
                        refine x_iload 261 dR_look_259 rfl rfl ?_
                        refine x_goto 266 dR_look_261 (by decide) ?_
                        refine x_istore 268 dR_look_266 rfl (by decide) rfl ?_
                        refine x_iinc 271 dR_look_268 rfl rfl (by decide) rfl ?_
                        refine x_goto 117 dR_look_271 (by decide) ?_
                        exact ih _ _ _ _ _ _ _ _ (by rw [i_inc (by omega) (by omega)]; omega) (by rw [i_inc (by omega) (by omega)]; omega) (by simp only [lk2, if_pos h159, if_pos (show lkd A i q = le from h170), if_neg h175, if_neg h182, if_neg h194, if_neg h201, if_neg h213, if_neg h231, if_neg h256])
                  · skip
                    refine x_iload 218 dR_look_216 rfl rfl ?_
                    refine x_goto 223 dR_look_218 (by decide) ?_
                    refine x_istore 225 dR_look_223 rfl (by decide) rfl ?_
                    refine x_iload 227 dR_look_225 rfl rfl ?_
                    refine x_istore 229 dR_look_227 rfl (by decide) rfl ?_
                    refine x_iload 231 dR_look_229 rfl rfl ?_
                    refine x_if_eq 259 234 dR_look_231 (by decide) rfl (fun h231 => ?_) (fun h231 => ?_)
                    · skip
                      refine x_iload 261 dR_look_259 rfl rfl ?_
                      refine x_goto 266 dR_look_261 (by decide) ?_
                      refine x_istore 268 dR_look_266 rfl (by decide) rfl ?_
                      refine x_iinc 271 dR_look_268 rfl rfl (by decide) rfl ?_
                      refine x_goto 117 dR_look_271 (by decide) ?_
                      exact ih _ _ _ _ _ _ _ _ (by rw [i_inc (by omega) (by omega)]; omega) (by rw [i_inc (by omega) (by omega)]; omega) (by simp only [lk2, if_pos h159, if_pos (show lkd A i q = le from h170), if_neg h175, if_neg h182, if_neg h194, if_neg h201, if_pos h213, if_pos h231])
                    · skip
                      refine x_iload 236 dR_look_234 rfl rfl ?_
                      refine x_aload_n 237 dR_look_236 rfl rfl ?_
                      refine x_get _ 240 fR_51 dR_look_237 rfl rfl rfl ?_
                      refine x_iload_n 241 dR_look_240 rfl rfl ?_
                      refine x_iald 242 dR_look_241 rfl rfl hi2 ?_
                      refine x_fSv 245 (cR_distance _ _) kR_125 oR_distance dR_look_242 rfl rfl (by decide) (Nat.le_of_ble_eq_true rfl) ?_
                      refine x_iload 247 dR_look_245 rfl rfl ?_
                      refine x_aload_n 248 dR_look_247 rfl rfl ?_
                      refine x_get _ 251 fR_51 dR_look_248 rfl rfl rfl ?_
                      refine x_iload_n 252 dR_look_251 rfl rfl ?_
                      refine x_iald 253 dR_look_252 rfl rfl hi2 ?_
                      refine x_fSv 256 (cR_distance _ _) kR_125 oR_distance dR_look_253 rfl rfl (by decide) (Nat.le_of_ble_eq_true rfl) ?_
                      refine x_icmp_ge 264 259 dR_look_256 (by decide) rfl (fun h256 => ?_) (fun h256 => ?_)
                      · skip
                        refine x_iload 266 dR_look_264 rfl rfl ?_
                        refine x_istore 268 dR_look_266 rfl (by decide) rfl ?_
                        refine x_iinc 271 dR_look_268 rfl rfl (by decide) rfl ?_
                        refine x_goto 117 dR_look_271 (by decide) ?_
                        exact ih _ _ _ _ _ _ _ _ (by rw [i_inc (by omega) (by omega)]; omega) (by rw [i_inc (by omega) (by omega)]; omega) (by simp only [lk2, if_pos h159, if_pos (show lkd A i q = le from h170), if_neg h175, if_neg h182, if_neg h194, if_neg h201, if_pos h213, if_neg h231, if_pos h256])
                      · skip
                        refine x_iload 261 dR_look_259 rfl rfl ?_
                        refine x_goto 266 dR_look_261 (by decide) ?_
                        refine x_istore 268 dR_look_266 rfl (by decide) rfl ?_
                        refine x_iinc 271 dR_look_268 rfl rfl (by decide) rfl ?_
                        refine x_goto 117 dR_look_271 (by decide) ?_
                        exact ih _ _ _ _ _ _ _ _ (by rw [i_inc (by omega) (by omega)]; omega) (by rw [i_inc (by omega) (by omega)]; omega) (by simp only [lk2, if_pos h159, if_pos (show lkd A i q = le from h170), if_neg h175, if_neg h182, if_neg h194, if_neg h201, if_pos h213, if_neg h231, if_neg h256])
    refine x_iload 119 dR_look_117 rfl rfl ?_
    refine x_bipush (64) 121 dR_look_119 rfl rfl ?_
    refine x_icmp_ge 274 124 dR_look_121 (by decide) rfl (fun h121 => absurd h121 hlt) (fun h121 => ?_)
    refine x_aload_n 125 dR_look_124 rfl rfl ?_
    refine x_iload_n 126 dR_look_125 rfl rfl ?_
    refine x_iconst 0 127 dR_look_126 rfl rfl ?_
    refine x_iload 129 dR_look_127 rfl rfl ?_
    refine x_fVv 132 (cR_willing hc _ _ _) kR_121 oR_willing rfl rfl dR_look_129 rfl rfl (by decide) (Nat.le_of_ble_eq_true rfl) ?_
    refine x_istore 134 dR_look_132 rfl (by decide) rfl ?_
    refine x_aload_n 135 dR_look_134 rfl rfl ?_
    refine x_iload_n 136 dR_look_135 rfl rfl ?_
    refine x_iconst 1 137 dR_look_136 rfl rfl ?_
    refine x_iload 139 dR_look_137 rfl rfl ?_
    refine x_fVv 142 (cR_willing hc _ _ _) kR_121 oR_willing rfl rfl dR_look_139 rfl rfl (by decide) (Nat.le_of_ble_eq_true rfl) ?_
    refine x_istore 144 dR_look_142 rfl (by decide) rfl ?_
    refine x_iload 146 dR_look_144 rfl rfl ?_
    refine x_iload 148 dR_look_146 rfl rfl ?_
    refine x_icmp_ge 156 151 dR_look_148 (by decide) rfl (fun h148 => ?_) (fun h148 => ?_)
    · skip
      refine x_iload 158 dR_look_156 rfl rfl ?_
      have e : lkv A i q = _ := if_pos h148
      rw [e] at K
      exact K
    · skip
      refine x_iload 153 dR_look_151 rfl rfl ?_
      refine x_goto 158 dR_look_153 (by decide) ?_
      have e : lkv A i q = _ := if_neg h148
      rw [e] at K
      exact K
def lkS (A : Nat → Nat → Int32) (i mo le : Int32) : Nat → Nat → Int32 := lkE (si (si A 16 0 0) 17 0 mo) i mo (lk2 (si (si A 16 0 0) 17 0 mo) i mo le 63 1 1 1 0 0 0)
theorem lp_lk1 (hc : MC A) {i : Int32} (hi2 : vp_in i 2) (T : Int32 × Int32) : ∀ (n : Nat) (q mo le : Int32) (a b c d x y z : Option xV), q.toInt + n = 64 → 1 ≤ q.toInt → lk1 A i n q mo le = T → x_X l G mR_look 2 0 0 [] (x_is none (hp N I J P V (lkS A i T.1 T.2) B)) 7 [some (xR (some (14, 0))), some (xI i), some (xI mo), some (xI le), some (xI q), a, b, c, d, x, y, z] [] (hp N I J P V A B) := by
  intro n
  induction n with
  | zero =>
    intro q mo le a b c d x y z hq1 hq2 hT
    subst hT
    refine x_iload 9 dR_look_7 rfl rfl ?_
    refine x_bipush (64) 11 dR_look_9 rfl rfl ?_
    refine x_icmp_ge 89 14 dR_look_11 (by decide) rfl (fun h11 => ?_) (fun h11 => absurd (show (64 : Int32) ≤ q from by rw [i_le, c64]; omega) h11)
    refine x_aload_n 90 dR_look_89 rfl rfl ?_
    refine x_iconst 0 91 dR_look_90 rfl rfl ?_
    refine y_R18 94 pR_look_128 dR_look_91 rfl ?_
    refine x_aload_n 95 dR_look_94 rfl rfl ?_
    refine x_iload_n 96 dR_look_95 rfl rfl ?_
    refine y_R19 99 pR_look_131 dR_look_96 rfl ?_
    refine x_iconst 1 100 dR_look_99 rfl rfl ?_
    refine x_istore 102 dR_look_100 rfl (by decide) rfl ?_
    refine x_iconst 1 103 dR_look_102 rfl rfl ?_
    refine x_istore 105 dR_look_103 rfl (by decide) rfl ?_
    refine x_iconst 0 106 dR_look_105 rfl rfl ?_
    refine x_istore 108 dR_look_106 rfl (by decide) rfl ?_
    refine x_iconst 0 109 dR_look_108 rfl rfl ?_
    refine x_istore 111 dR_look_109 rfl (by decide) rfl ?_
    refine x_iconst 0 112 dR_look_111 rfl rfl ?_
    refine x_istore 114 dR_look_112 rfl (by decide) rfl ?_
    refine x_iconst 1 115 dR_look_114 rfl rfl ?_
    refine x_istore 117 dR_look_115 rfl (by decide) rfl ?_
    exact lp_lk2 (A := si (si A 16 0 0) 17 0 mo) (by exact hc) hi2 mo le _ 63 1 1 1 0 0 0 _ _ (by decide) (by decide) rfl
  | succ n ih =>
    intro q mo le a b c d x y z hq1 hq2 hT
    have hlt : ¬ (64 : Int32) ≤ q := by rw [i_le, c64]; omega
    have K : x_X l G mR_look 2 0 0 [] (x_is none (hp N I J P V (lkS A i T.1 T.2) B)) 48 [some (xR (some (14, 0))), some (xI i), some (xI mo), some (xI le), some (xI q), some (xI (wl A i 0 q)), some (xI (wl A i 1 q)), c, d, x, y, z] [xI (lkv A i q)] (hp N I J P V A B) := by
      refine x_istore 50 dR_look_48 rfl (by decide) rfl ?_
      refine x_iload 52 dR_look_50 rfl rfl ?_
      refine x_iload 54 dR_look_52 rfl rfl ?_
      refine x_fSv 57 (cR_distance _ _) kR_125 oR_distance dR_look_54 rfl rfl (by decide) (Nat.le_of_ble_eq_true rfl) ?_
      refine x_istore 59 dR_look_57 rfl (by decide) rfl ?_
      refine x_iload 61 dR_look_59 rfl rfl ?_
      refine x_iload_n 62 dR_look_61 rfl rfl ?_
      refine x_icmp_gt 77 65 dR_look_62 (by decide) rfl (fun h62 => ?_) (fun h62 => ?_)
      · skip
        refine x_iload 79 dR_look_77 rfl rfl ?_
        refine x_istore_n 80 dR_look_79 rfl (by decide) rfl ?_
        refine x_iload 82 dR_look_80 rfl rfl ?_
        refine x_istore_n 83 dR_look_82 rfl (by decide) rfl ?_
        refine x_iinc 86 dR_look_83 rfl rfl (by decide) rfl ?_
        refine x_goto 7 dR_look_86 (by decide) ?_
        exact ih _ _ _ _ _ _ _ _ _ _ (by rw [i_inc (by omega) (by omega)]; omega) (by rw [i_inc (by omega) (by omega)]; omega) (by rw [← hT]; simp only [lk1, if_pos h62]; first | done | rfl)
      · skip
        refine x_iload 67 dR_look_65 rfl rfl ?_
        refine x_iload_n 68 dR_look_67 rfl rfl ?_
        refine x_icmp_ne 83 71 dR_look_68 (by decide) rfl (fun h68 => ?_) (fun h68 => ?_)
        · skip
          refine x_iinc 86 dR_look_83 rfl rfl (by decide) rfl ?_
          refine x_goto 7 dR_look_86 (by decide) ?_
          exact ih _ _ _ _ _ _ _ _ _ _ (by rw [i_inc (by omega) (by omega)]; omega) (by rw [i_inc (by omega) (by omega)]; omega) (by rw [← hT]; simp only [lk1, if_neg h62, if_neg h68]; first | done | rfl)
        · skip
          refine x_iload 73 dR_look_71 rfl rfl ?_
          refine x_iload_n 74 dR_look_73 rfl rfl ?_
          refine x_icmp_ge 83 77 dR_look_74 (by decide) rfl (fun h74 => ?_) (fun h74 => ?_)
          · skip
            refine x_iinc 86 dR_look_83 rfl rfl (by decide) rfl ?_
            refine x_goto 7 dR_look_86 (by decide) ?_
            exact ih _ _ _ _ _ _ _ _ _ _ (by rw [i_inc (by omega) (by omega)]; omega) (by rw [i_inc (by omega) (by omega)]; omega) (by rw [← hT]; simp only [lk1, if_neg h62, if_pos h68, if_pos (show le ≤ lkd A i q from h74)]; first | done | rfl)
          · skip
            refine x_iload 79 dR_look_77 rfl rfl ?_
            refine x_istore_n 80 dR_look_79 rfl (by decide) rfl ?_
            refine x_iload 82 dR_look_80 rfl rfl ?_
            refine x_istore_n 83 dR_look_82 rfl (by decide) rfl ?_
            refine x_iinc 86 dR_look_83 rfl rfl (by decide) rfl ?_
            refine x_goto 7 dR_look_86 (by decide) ?_
            exact ih _ _ _ _ _ _ _ _ _ _ (by rw [i_inc (by omega) (by omega)]; omega) (by rw [i_inc (by omega) (by omega)]; omega) (by rw [← hT]; simp only [lk1, if_neg h62, if_pos h68, if_neg (show ¬ le ≤ lkd A i q from h74)]; first | done | rfl)
    refine x_iload 9 dR_look_7 rfl rfl ?_
    refine x_bipush (64) 11 dR_look_9 rfl rfl ?_
    refine x_icmp_ge 89 14 dR_look_11 (by decide) rfl (fun h11 => absurd h11 hlt) (fun h11 => ?_)
    refine x_aload_n 15 dR_look_14 rfl rfl ?_
    refine x_iload_n 16 dR_look_15 rfl rfl ?_
    refine x_iconst 0 17 dR_look_16 rfl rfl ?_
    refine x_iload 19 dR_look_17 rfl rfl ?_
    refine x_fVv 22 (cR_willing hc _ _ _) kR_121 oR_willing rfl rfl dR_look_19 rfl rfl (by decide) (Nat.le_of_ble_eq_true rfl) ?_
    refine x_istore 24 dR_look_22 rfl (by decide) rfl ?_
    refine x_aload_n 25 dR_look_24 rfl rfl ?_
    refine x_iload_n 26 dR_look_25 rfl rfl ?_
    refine x_iconst 1 27 dR_look_26 rfl rfl ?_
    refine x_iload 29 dR_look_27 rfl rfl ?_
    refine x_fVv 32 (cR_willing hc _ _ _) kR_121 oR_willing rfl rfl dR_look_29 rfl rfl (by decide) (Nat.le_of_ble_eq_true rfl) ?_
    refine x_istore 34 dR_look_32 rfl (by decide) rfl ?_
    refine x_iload 36 dR_look_34 rfl rfl ?_
    refine x_iload 38 dR_look_36 rfl rfl ?_
    refine x_icmp_ge 46 41 dR_look_38 (by decide) rfl (fun h38 => ?_) (fun h38 => ?_)
    · skip
      refine x_iload 48 dR_look_46 rfl rfl ?_
      have e : lkv A i q = _ := if_pos h38
      rw [e] at K
      exact K
    · skip
      refine x_iload 43 dR_look_41 rfl rfl ?_
      refine x_goto 48 dR_look_43 (by decide) ?_
      have e : lkv A i q = _ := if_neg h38
      rw [e] at K
      exact K
noncomputable def lkA (A : Nat → Nat → Int32) (i : Int32) : Nat → Nat → Int32 := sealed (lkS A i (lk1 A i 63 1 0 0).1 (lk1 A i 63 1 0 0).2)
theorem lkA_eq (A : Nat → Nat → Int32) (i : Int32) : lkA A i = lkS A i (lk1 A i 63 1 0 0).1 (lk1 A i 63 1 0 0).2 := sealed_eq _
theorem cR_look (hc : MC A) {i : Int32} (hi2 : vp_in i 2) : x_C l G mR_look 2 0 0 [xR (some (14, 0)), xI i] (hp N I J P V A B) [] (x_is none (hp N I J P V (lkA A i) B)) := by
  rw [lkA_eq]
  refine x_C.at [some (xR (some (14, 0))), some (xI i), none, none, none, none, none, none, none, none, none, none] rfl (Nat.le_of_ble_eq_true rfl) rfl ?_
  refine x_iconst 0 1 dR_look_0 rfl rfl ?_
  refine x_istore_n 2 dR_look_1 rfl (by decide) rfl ?_
  refine x_iconst 0 3 dR_look_2 rfl rfl ?_
  refine x_istore_n 4 dR_look_3 rfl (by decide) rfl ?_
  refine x_iconst 1 5 dR_look_4 rfl rfl ?_
  refine x_istore 7 dR_look_5 rfl (by decide) rfl ?_
  exact lp_lk1 hc hi2 (lk1 A i 63 1 0 0) 63 1 0 0 _ _ _ _ _ _ _ (by decide) (by decide) rfl
theorem lkE_ne (A : Nat → Nat → Int32) (i mo pr : Int32) {c : Nat} (h6 : c ≠ 16) (h8 : c ≠ 18) : lkE A i mo pr c = A c := by
  unfold lkE
  split
  · rfl
  · show (if c = 18 then _ else (if c = 16 then _ else A c)) = A c
    rw [if_neg h8, if_neg h6]
theorem lkA_ne (A : Nat → Nat → Int32) (i : Int32) {c : Nat} (h6 : c ≠ 16) (h7 : c ≠ 17) (h8 : c ≠ 18) : lkA A i c = A c := by
  rw [lkA_eq]
  unfold lkS
  rw [lkE_ne _ _ _ _ h6 h8]
  show (if c = 17 then _ else (if c = 16 then _ else A c)) = A c
  rw [if_neg h7, if_neg h6]
theorem si_eq (A : Nat → Nat → Int32) (c k : Nat) (v : Int32) : si A c k v c k = v := by
  unfold si
  rw [if_pos rfl, x_uf_self]
theorem lkA_17 (A : Nat → Nat → Int32) (i : Int32) : lkA A i 17 0 = (lk1 A i 63 1 0 0).1 := by
  rw [lkA_eq]
  unfold lkS
  rw [lkE_ne _ _ _ _ (by decide) (by decide)]
  exact si_eq _ _ _ _
theorem lkA_KM (A : Nat → Nat → Int32) (i : Int32) : KM A (lkA A i) ∧ lkA A i 15 = A 15 := by
  refine ⟨⟨?_, ?_, ?_, ?_, ?_, ?_, ?_⟩, ?_⟩ <;> exact lkA_ne A i (by decide) (by decide) (by decide)
theorem MC.lk (hc : MC A) (i : Int32) : MC (lkA A i) := by
  unfold MC
  rw [(lkA_KM A i).1.2.2.2.2.2.2]
  exact hc
noncomputable def inM (A : Nat → Nat → Int32) (B : Nat → Nat → Int64) (i p : Int32) : Int32 × mAB := if out i 0 1 = 0 then (if out p 0 2 = 0 then (if lkA A i 16 0 = 0 then (-6, (lkA A i, B)) else if p = 0 then (lkA A i 16 0, (lkA A i, B)) else if p = 1 then (lkA A i 17 0, (lkA A i, B)) else (lkA A i 18 0, (lkA A i, B))) else (-1, (A, B))) else (-1, (A, B))
theorem cR_indication (hc : MC A) (i p : Int32) : x_C l G mR_indication 3 0 0 [xR (some (14, 0)), xI i, xI p] (hp N I J P V A B) [] (QM N I J P V (inM A B i p)) := by
  refine x_C.at [some (xR (some (14, 0))), some (xI i), some (xI p)] rfl (Nat.le_of_ble_eq_true rfl) rfl ?_
  refine x_iload_n 1 dR_indication_0 rfl rfl ?_
  refine x_iconst 0 2 dR_indication_1 rfl rfl ?_
  refine x_iconst 1 3 dR_indication_2 rfl rfl ?_
  refine x_fSv 6 (cR_outside _ _ _) kR_98 oR_outside dR_indication_3 rfl rfl (by decide) (Nat.le_of_ble_eq_true rfl) ?_
  refine x_if_ne 18 9 dR_indication_6 (by decide) rfl (fun h6 => ?_) (fun h6 => ?_)
  · skip
    refine x_iconst (-1) 19 dR_indication_18 rfl rfl ?_
    exact x_iret dR_indication_19 rfl rfl (QM.ig h6 (⟨rfl, rfl⟩))
  · skip
    refine x_iload_n 10 dR_indication_9 rfl rfl ?_
    refine x_iconst 0 11 dR_indication_10 rfl rfl ?_
    refine x_iconst 2 12 dR_indication_11 rfl rfl ?_
    refine x_fSv 15 (cR_outside _ _ _) kR_98 oR_outside dR_indication_12 rfl rfl (by decide) (Nat.le_of_ble_eq_true rfl) ?_
    refine x_if_eq 20 18 dR_indication_15 (by decide) rfl (fun h15 => ?_) (fun h15 => ?_)
    · skip
      refine x_aload_n 21 dR_indication_20 rfl rfl ?_
      refine x_iload_n 22 dR_indication_21 rfl rfl ?_
      refine x_fVn 25 (cR_look hc (vO2 h6)) kR_137 oR_look rfl rfl dR_indication_22 rfl rfl (by decide) (Nat.le_of_ble_eq_true rfl) ?_
      refine x_aload_n 26 dR_indication_25 rfl rfl ?_
      refine x_get _ 29 fR_128 dR_indication_26 rfl rfl rfl ?_
      refine x_if_ne 37 32 dR_indication_29 (by decide) rfl (fun h29 => ?_) (fun h29 => ?_)
      · skip
        refine x_iload_n 38 dR_indication_37 rfl rfl ?_
        refine x_if_ne 48 41 dR_indication_38 (by decide) rfl (fun h38 => ?_) (fun h38 => ?_)
        · skip
          refine x_iload_n 49 dR_indication_48 rfl rfl ?_
          refine x_iconst 1 50 dR_indication_49 rfl rfl ?_
          refine x_icmp_ne 60 53 dR_indication_50 (by decide) rfl (fun h50 => ?_) (fun h50 => ?_)
          · skip
            refine x_aload_n 61 dR_indication_60 rfl rfl ?_
            refine x_get _ 64 fR_134 dR_indication_61 rfl rfl rfl ?_
            exact x_iret dR_indication_64 rfl rfl (QM.ip h6 (QM.ip h15 (QM.ig h29 (QM.ig h38 (QM.ig h50 (⟨rfl, rfl⟩))))))
          · skip
            refine x_aload_n 54 dR_indication_53 rfl rfl ?_
            refine x_get _ 57 fR_131 dR_indication_54 rfl rfl rfl ?_
            refine x_goto 64 dR_indication_57 (by decide) ?_
            exact x_iret dR_indication_64 rfl rfl (QM.ip h6 (QM.ip h15 (QM.ig h29 (QM.ig h38 (QM.ip h50 (⟨rfl, rfl⟩))))))
        · skip
          refine x_aload_n 42 dR_indication_41 rfl rfl ?_
          refine x_get _ 45 fR_128 dR_indication_42 rfl rfl rfl ?_
          refine x_goto 64 dR_indication_45 (by decide) ?_
          exact x_iret dR_indication_64 rfl rfl (QM.ip h6 (QM.ip h15 (QM.ig h29 (QM.ip h38 (⟨rfl, rfl⟩)))))
      · skip
        refine x_bipush (-6) 34 dR_indication_32 rfl rfl ?_
        refine x_goto 64 dR_indication_34 (by decide) ?_
        exact x_iret dR_indication_64 rfl rfl (QM.ip h6 (QM.ip h15 (QM.ip h29 (⟨rfl, rfl⟩))))
    · skip
      refine x_iconst (-1) 19 dR_indication_18 rfl rfl ?_
      exact x_iret dR_indication_19 rfl rfl (QM.ip h6 (QM.ig h15 (⟨rfl, rfl⟩)))
def onN (A : Nat → Nat → Int32) (b s : Int32) : Int32 := if A 5 s.toNatClampNeg ≤ A 5 b.toNatClampNeg then A 5 s.toNatClampNeg else A 5 b.toNatClampNeg
def oxS (A : Nat → Nat → Int32) (B : Nat → Nat → Int64) (b s n : Int32) : mAB := (afA (afA (swA A b s (A 16 0) n) b.toNatClampNeg) s.toNatClampNeg, swB A B b s (A 16 0) n)
def opF (i : Int32) : Nat → mAB → Int32 → mAB
  | 0, S, _ => S
  | n + 1, S, lf => if lf ≤ 0 then S else opF i n (oxS S.1 S.2 (fr S.1 i 0) (fr S.1 i 1) (onN S.1 (fr S.1 i 0) (fr S.1 i 1))) (lf - onN S.1 (fr S.1 i 0) (fr S.1 i 1))
def opT (i : Int32) : Nat → mAB → Int32 → Prop
  | 0, _, lf => lf ≤ 0
  | n + 1, S, lf => lf ≤ 0 ∨ (0 ≤ (fr S.1 i 0).toInt ∧ 0 ≤ (fr S.1 i 1).toInt ∧ opT i n (oxS S.1 S.2 (fr S.1 i 0) (fr S.1 i 1) (onN S.1 (fr S.1 i 0) (fr S.1 i 1))) (lf - onN S.1 (fr S.1 i 0) (fr S.1 i 1)))
theorem oxS_KM (b s n : Int32) : KM A (oxS A B b s n).1 ∧ (oxS A B b s n).1 15 0 = A 15 0 + 1 ∧ (oxS A B b s n).1 17 = A 17 ∧ (oxS A B b s n).1 16 = A 16 := ⟨⟨rfl, rfl, rfl, rfl, rfl, rfl, rfl⟩, rfl, rfl, rfl⟩
theorem lp_R_open {i : Int32} (T : mAB) : ∀ (n : Nat) (A : Nat → Nat → Int32) (B : Nat → Nat → Int64) (lf : Int32) (x y z : Option xV), OM A → (A 15 0).toInt + n < 2147483648 → opT i n (A, B) lf → opF i n (A, B) lf = T → x_X l G mR_open 3 0 0 [] (QM N I J P V (A 17 0, T)) 40 [some (xR (some (14, 0))), some (xI i), some (xI lf), x, y, z] [] (hp N I J P V A B) := by
  intro n
  induction n with
  | zero =>
    intro A B lf x y z hO h15 ht hT
    subst hT
    refine x_iload_n 41 dR_open_40 rfl rfl ?_
    refine x_if_le 125 44 dR_open_41 (by decide) rfl (fun h41 => ?_) (fun h41 => absurd ht h41)
    refine x_aload_n 126 dR_open_125 rfl rfl ?_
    refine x_get _ 129 fR_131 dR_open_126 rfl rfl rfl ?_
    exact x_iret dR_open_129 rfl rfl ⟨rfl, rfl⟩
  | succ n ih =>
    intro A B lf x y z hO h15 ht hT
    by_cases hl : lf ≤ 0
    · skip
      refine x_iload_n 41 dR_open_40 rfl rfl ?_
      refine x_if_le 125 44 dR_open_41 (by decide) rfl (fun h41 => ?_) (fun h41 => absurd hl h41)
      refine x_aload_n 126 dR_open_125 rfl rfl ?_
      refine x_get _ 129 fR_131 dR_open_126 rfl rfl rfl ?_
      exact x_iret dR_open_129 rfl rfl ⟨rfl, by rw [← hT]; simp only [opF, if_pos hl]⟩
    · rcases ht with ht | ⟨hb0, hs0, ht⟩
      · exact absurd ht hl
      · have hrb := fr_rng hO.1 i 0
        have hrs := fr_rng hO.1 i 1
        have h120 := hO.1.2
        have hb : vp_in (fr A i 0) 120 := vp_of hb0 (by omega)
        have hs : vp_in (fr A i 1) 120 := vp_of hs0 (by omega)
        have ob := hO.2.1 (fr A i 0).toNatClampNeg (by rw [i_nat]; dsimp only at hb0; omega)
        have os := hO.2.1 (fr A i 1).toNatClampNeg (by rw [i_nat]; dsimp only at hs0; omega)
        refine x_iload_n 41 dR_open_40 rfl rfl ?_
        refine x_if_le 125 44 dR_open_41 (by decide) rfl (fun h41 => absurd h41 hl) (fun h41 => ?_)
        refine x_aload_n 45 dR_open_44 rfl rfl ?_
        refine x_iload_n 46 dR_open_45 rfl rfl ?_
        refine x_iconst 0 47 dR_open_46 rfl rfl ?_
        refine x_fVv 50 (cR_front hO.1 _ _) kR_74 oR_front rfl rfl dR_open_47 rfl rfl (by decide) (Nat.le_of_ble_eq_true rfl) ?_
        refine x_istore_n 51 dR_open_50 rfl (by decide) rfl ?_
        refine x_aload_n 52 dR_open_51 rfl rfl ?_
        refine x_iload_n 53 dR_open_52 rfl rfl ?_
        refine x_iconst 1 54 dR_open_53 rfl rfl ?_
        refine x_fVv 57 (cR_front hO.1 _ _) kR_74 oR_front rfl rfl dR_open_54 rfl rfl (by decide) (Nat.le_of_ble_eq_true rfl) ?_
        refine x_istore 59 dR_open_57 rfl (by decide) rfl ?_
        refine x_aload_n 60 dR_open_59 rfl rfl ?_
        refine x_get _ 63 fR_25 dR_open_60 rfl rfl rfl ?_
        refine x_iload_n 64 dR_open_63 rfl rfl ?_
        refine x_iald 65 dR_open_64 rfl (h_ra 5 (by decide)) hb ?_
        refine x_aload_n 66 dR_open_65 rfl rfl ?_
        refine x_get _ 69 fR_25 dR_open_66 rfl rfl rfl ?_
        refine x_iload 71 dR_open_69 rfl rfl ?_
        refine x_iald 72 dR_open_71 rfl (h_ra 5 (by decide)) hs ?_
        refine x_icmp_ge 84 75 dR_open_72 (by decide) rfl (fun h72 => ?_) (fun h72 => ?_)
        · skip
          refine x_aload_n 85 dR_open_84 rfl rfl ?_
          refine x_get _ 88 fR_25 dR_open_85 rfl rfl rfl ?_
          refine x_iload 90 dR_open_88 rfl rfl ?_
          refine x_iald 91 dR_open_90 rfl (h_ra 5 (by decide)) hs ?_
          refine x_istore 93 dR_open_91 rfl (by decide) rfl ?_
          refine x_aload_n 94 dR_open_93 rfl rfl ?_
          refine x_iload_n 95 dR_open_94 rfl rfl ?_
          refine x_iload 97 dR_open_95 rfl rfl ?_
          refine x_aload_n 98 dR_open_97 rfl rfl ?_
          refine x_get _ 101 fR_128 dR_open_98 rfl rfl rfl ?_
          refine x_iload 103 dR_open_101 rfl rfl ?_
          refine x_fVn 106 (cR_swap hb hs ob os hO.2.2 _ _) kR_86 oR_swap rfl rfl dR_open_103 rfl rfl (by decide) (Nat.le_of_ble_eq_true rfl) ?_
          refine x_aload_n 107 dR_open_106 rfl rfl ?_
          refine x_iload_n 108 dR_open_107 rfl rfl ?_
          refine x_fVn 111 (cR_after hb) kR_140 oR_after rfl rfl dR_open_108 rfl rfl (by decide) (Nat.le_of_ble_eq_true rfl) ?_
          refine x_aload_n 112 dR_open_111 rfl rfl ?_
          refine x_iload 114 dR_open_112 rfl rfl ?_
          refine x_fVn 117 (cR_after hs) kR_140 oR_after rfl rfl dR_open_114 rfl rfl (by decide) (Nat.le_of_ble_eq_true rfl) ?_
          refine x_iload_n 118 dR_open_117 rfl rfl ?_
          refine x_iload 120 dR_open_118 rfl rfl ?_
          refine x_isub 121 dR_open_120 rfl ?_
          refine x_istore_n 122 dR_open_121 rfl (by decide) rfl ?_
          refine x_goto 40 dR_open_122 (by decide) ?_
          have e : onN A (fr A i 0) (fr A i 1) = _ := if_pos h72
          have hk := oxS_KM (A := A) (B := B) (fr A i 0) (fr A i 1) (onN A (fr A i 0) (fr A i 1))
          have h15' : ((oxS A B (fr A i 0) (fr A i 1) (onN A (fr A i 0) (fr A i 1))).1 15 0).toInt = (A 15 0).toInt + 1 := by rw [hk.2.1]; exact i_p1 hO.2.2 (by omega)
          rw [← e]
          exact ih (oxS A B (fr A i 0) (fr A i 1) (onN A (fr A i 0) (fr A i 1))).1 (oxS A B (fr A i 0) (fr A i 1) (onN A (fr A i 0) (fr A i 1))).2 _ _ _ _ (hO.re hk.1 (by rw [h15']; have := hO.2.2; omega)) (by rw [h15']; omega) ht (by rw [← hT]; simp only [opF, if_neg hl])
        · skip
          refine x_aload_n 76 dR_open_75 rfl rfl ?_
          refine x_get _ 79 fR_25 dR_open_76 rfl rfl rfl ?_
          refine x_iload_n 80 dR_open_79 rfl rfl ?_
          refine x_iald 81 dR_open_80 rfl (h_ra 5 (by decide)) hb ?_
          refine x_goto 91 dR_open_81 (by decide) ?_
          refine x_istore 93 dR_open_91 rfl (by decide) rfl ?_
          refine x_aload_n 94 dR_open_93 rfl rfl ?_
          refine x_iload_n 95 dR_open_94 rfl rfl ?_
          refine x_iload 97 dR_open_95 rfl rfl ?_
          refine x_aload_n 98 dR_open_97 rfl rfl ?_
          refine x_get _ 101 fR_128 dR_open_98 rfl rfl rfl ?_
          refine x_iload 103 dR_open_101 rfl rfl ?_
          refine x_fVn 106 (cR_swap hb hs ob os hO.2.2 _ _) kR_86 oR_swap rfl rfl dR_open_103 rfl rfl (by decide) (Nat.le_of_ble_eq_true rfl) ?_
          refine x_aload_n 107 dR_open_106 rfl rfl ?_
          refine x_iload_n 108 dR_open_107 rfl rfl ?_
          refine x_fVn 111 (cR_after hb) kR_140 oR_after rfl rfl dR_open_108 rfl rfl (by decide) (Nat.le_of_ble_eq_true rfl) ?_
          refine x_aload_n 112 dR_open_111 rfl rfl ?_
          refine x_iload 114 dR_open_112 rfl rfl ?_
          refine x_fVn 117 (cR_after hs) kR_140 oR_after rfl rfl dR_open_114 rfl rfl (by decide) (Nat.le_of_ble_eq_true rfl) ?_
          refine x_iload_n 118 dR_open_117 rfl rfl ?_
          refine x_iload 120 dR_open_118 rfl rfl ?_
          refine x_isub 121 dR_open_120 rfl ?_
          refine x_istore_n 122 dR_open_121 rfl (by decide) rfl ?_
          refine x_goto 40 dR_open_122 (by decide) ?_
          have e : onN A (fr A i 0) (fr A i 1) = _ := if_neg h72
          have hk := oxS_KM (A := A) (B := B) (fr A i 0) (fr A i 1) (onN A (fr A i 0) (fr A i 1))
          have h15' : ((oxS A B (fr A i 0) (fr A i 1) (onN A (fr A i 0) (fr A i 1))).1 15 0).toInt = (A 15 0).toInt + 1 := by rw [hk.2.1]; exact i_p1 hO.2.2 (by omega)
          rw [← e]
          exact ih (oxS A B (fr A i 0) (fr A i 1) (onN A (fr A i 0) (fr A i 1))).1 (oxS A B (fr A i 0) (fr A i 1) (onN A (fr A i 0) (fr A i 1))).2 _ _ _ _ (hO.re hk.1 (by rw [h15']; have := hO.2.2; omega)) (by rw [h15']; omega) ht (by rw [← hT]; simp only [opF, if_neg hl])
noncomputable def opM (n : Nat) (A : Nat → Nat → Int32) (B : Nat → Nat → Int64) (i : Int32) : Int32 × mAB := if out i 0 1 = 0 then (if A 10 i.toNatClampNeg = 0 then (lkA A i 17 0, opF i n (si (lkA A i) 10 i.toNatClampNeg 1, B) (lkA A i 17 0)) else (-3, (A, B))) else (-1, (A, B))
theorem OM.lk (hO : OM A) (i : Int32) (v : Int32) (k : Nat) : OM (si (lkA A i) 10 k v) := by
  obtain ⟨⟨k0, k1, -, -, -, -, k13⟩, k15⟩ := lkA_KM A i
  refine ⟨?_, fun j hj => ?_, ?_⟩
  · show 0 ≤ (lkA A i 13 0).toInt ∧ (lkA A i 13 0).toInt ≤ 120
    rw [k13]; exact hO.1
  · have hj : (j : Int) < (lkA A i 13 0).toInt := hj
    rw [k13] at hj
    show vp_in (lkA A i 0 j) 5 ∧ vp_in (lkA A i 1 j) 2
    rw [k0, k1]; exact hO.2.1 j hj
  · show 0 ≤ (lkA A i 15 0).toInt
    rw [k15]; exact hO.2.2
theorem cR_open (hO : OM A) (i : Int32) (n : Nat) (h15 : (A 15 0).toInt + n < 2147483648) (ht : vp_in i 2 → opT i n (si (lkA A i) 10 i.toNatClampNeg 1, B) (lkA A i 17 0)) : x_C l G mR_open 3 0 0 [xR (some (14, 0)), xI i] (hp N I J P V A B) [] (QM N I J P V (opM n A B i)) := by
  refine x_C.at [some (xR (some (14, 0))), some (xI i), none, none, none, none] rfl (Nat.le_of_ble_eq_true rfl) rfl ?_
  refine x_iload_n 1 dR_open_0 rfl rfl ?_
  refine x_iconst 0 2 dR_open_1 rfl rfl ?_
  refine x_iconst 1 3 dR_open_2 rfl rfl ?_
  refine x_fSv 6 (cR_outside _ _ _) kR_98 oR_outside dR_open_3 rfl rfl (by decide) (Nat.le_of_ble_eq_true rfl) ?_
  refine x_if_eq 11 9 dR_open_6 (by decide) rfl (fun h6 => ?_) (fun h6 => ?_)
  · skip
    refine x_aload_n 12 dR_open_11 rfl rfl ?_
    refine x_get _ 15 fR_47 dR_open_12 rfl rfl rfl ?_
    refine x_iload_n 16 dR_open_15 rfl rfl ?_
    refine x_bald 17 dR_open_16 rfl rfl (vO2 h6) ?_
    refine x_if_eq 23 20 dR_open_17 (by decide) rfl (fun h17 => ?_) (fun h17 => ?_)
    · skip
      refine x_aload_n 24 dR_open_23 rfl rfl ?_
      refine x_iload_n 25 dR_open_24 rfl rfl ?_
      refine x_fVn 28 (cR_look hO.1 (vO2 h6)) kR_137 oR_look rfl rfl dR_open_25 rfl rfl (by decide) (Nat.le_of_ble_eq_true rfl) ?_
      refine x_aload_n 29 dR_open_28 rfl rfl ?_
      refine x_get _ 32 fR_47 dR_open_29 rfl rfl rfl ?_
      refine x_iload_n 33 dR_open_32 rfl rfl ?_
      refine x_iconst 1 34 dR_open_33 rfl rfl ?_
      refine y_isOpen 35 dR_open_34 rfl (vO2 h6) rfl ?_
      refine x_aload_n 36 dR_open_35 rfl rfl ?_
      refine x_get _ 39 fR_131 dR_open_36 rfl rfl rfl ?_
      refine x_istore_n 40 dR_open_39 rfl (by decide) rfl ?_
      exact x_Xm (fun r h1 z => QM.ip h6 (QM.ip h17 (z))) (lp_R_open (i := i) _ n (si (lkA A i) 10 i.toNatClampNeg 1) B _ _ _ _ (hO.lk i 1 _) (by show (lkA A i 15 0).toInt + n < _; rw [(lkA_KM A i).2]; exact h15) (ht (vO2 h6)) rfl)
    · skip
      refine x_bipush (-3) 22 dR_open_20 rfl rfl ?_
      exact x_iret dR_open_22 rfl rfl (QM.ip h6 (QM.ig h17 (⟨rfl, rfl⟩)))
  · skip
    refine x_iconst (-1) 10 dR_open_9 rfl rfl ?_
    exact x_iret dR_open_10 rfl rfl (QM.ig h6 (⟨rfl, rfl⟩))
def smA : Nat → Int32 → (Nat → Nat → Int32) → Nat → Nat → Int32
  | 0, _, A => A
  | n + 1, o, A => smA n (o + Int32.ofInt 1) (si A 7 o.toNatClampNeg (if A 7 o.toNatClampNeg = 0 then 2 else A 7 o.toNatClampNeg))
def smB : Nat → Int32 → (Nat → Nat → Int64) → Int32 → Int32 × (Nat → Nat → Int64)
  | 0, _, B, v => (v, B)
  | n + 1, e, B, v => smB n (e + Int32.ofInt 1) (sj (sj B 0 e.toNatClampNeg (B 0 e.toNatClampNeg + B 1 e.toNatClampNeg)) 1 e.toNatClampNeg 0) (if lg_cmp (B 1 e.toNatClampNeg) 0 = 0 then v else v + 1)
def smE (A : Nat → Nat → Int32) : Nat → Nat → Int32 := si (si A 10 (0 : Int32).toNatClampNeg 0) 10 (1 : Int32).toNatClampNeg 0
theorem lp_sm2 (T : Int32 × (Nat → Nat → Int64)) : ∀ (n : Nat) (e v : Int32) (B : Nat → Nat → Int64), e.toInt + n = 5 → 0 ≤ e.toInt → smB n e B v = T → x_X l G mR_settle 0 0 0 [] (QM N I J P V (T.1, (A, T.2))) 59 [some (xR (some (14, 0))), some (xI v), some (xI e)] [] (hp N I J P V A B) := by
  intro n
  induction n with
  | zero =>
    intro e v B he1 he0 hT
    subst hT
    refine x_iload_n 60 dR_settle_59 rfl rfl ?_
    refine x_iconst 5 61 dR_settle_60 rfl rfl ?_
    refine x_icmp_ge 111 64 dR_settle_61 (by decide) rfl (fun h61 => ?_) (fun h61 => absurd (show (5 : Int32) ≤ e from by rw [i_le, c5]; omega) h61)
    refine x_iload_n 112 dR_settle_111 rfl rfl ?_
    exact x_iret dR_settle_112 rfl rfl ⟨rfl, rfl⟩
  | succ n ih =>
    intro e v B he1 he0 hT
    subst hT
    have hin : vp_in e 5 := vp_of (by omega) (by omega)
    have hlt : ¬ (5 : Int32) ≤ e := by rw [i_le, c5]; omega
    refine x_iload_n 60 dR_settle_59 rfl rfl ?_
    refine x_iconst 5 61 dR_settle_60 rfl rfl ?_
    refine x_icmp_ge 111 64 dR_settle_61 (by decide) rfl (fun h61 => absurd h61 hlt) (fun h61 => ?_)
    refine x_aload_n 65 dR_settle_64 rfl rfl ?_
    refine x_get _ 68 fR_41 dR_settle_65 rfl rfl rfl ?_
    refine x_iload_n 69 dR_settle_68 rfl rfl ?_
    refine x_lald 70 dR_settle_69 rfl (h_rl 1 (by decide)) (by assumption) ?_
    refine x_lconst 0 71 dR_settle_70 rfl rfl ?_
    refine x_lcmp 72 dR_settle_71 rfl ?_
    refine x_if_ne 79 75 dR_settle_72 (by decide) rfl (fun h72 => ?_) (fun h72 => ?_)
    · skip
      refine x_iload_n 80 dR_settle_79 rfl rfl ?_
      refine x_iconst 1 81 dR_settle_80 rfl rfl ?_
      refine x_iadd 82 dR_settle_81 rfl ?_
      refine x_istore_n 83 dR_settle_82 rfl (by decide) rfl ?_
      refine x_aload_n 84 dR_settle_83 rfl rfl ?_
      refine x_get _ 87 fR_37 dR_settle_84 rfl rfl rfl ?_
      refine x_iload_n 88 dR_settle_87 rfl rfl ?_
      refine x_dup2 89 dR_settle_88 rfl rfl rfl ?_
      refine x_lald 90 dR_settle_89 rfl (h_rl 0 (by decide)) (by assumption) ?_
      refine x_aload_n 91 dR_settle_90 rfl rfl ?_
      refine x_get _ 94 fR_41 dR_settle_91 rfl rfl rfl ?_
      refine x_iload_n 95 dR_settle_94 rfl rfl ?_
      refine x_lald 96 dR_settle_95 rfl (h_rl 1 (by decide)) (by assumption) ?_
      refine x_ladd 97 dR_settle_96 rfl ?_
      refine y_rl0 98 dR_settle_97 rfl (by assumption) ?_
      refine x_aload_n 99 dR_settle_98 rfl rfl ?_
      refine x_get _ 102 fR_41 dR_settle_99 rfl rfl rfl ?_
      refine x_iload_n 103 dR_settle_102 rfl rfl ?_
      refine x_lconst 0 104 dR_settle_103 rfl rfl ?_
      refine y_rl1 105 dR_settle_104 rfl (by assumption) ?_
      refine x_iinc 108 dR_settle_105 rfl rfl (by decide) rfl ?_
      refine x_goto 59 dR_settle_108 (by decide) ?_
      exact ih _ _ _ (by rw [i_inc (by omega) (by omega)]; omega) (by rw [i_inc (by omega) (by omega)]; omega) (by simp only [smB, if_neg h72])
    · skip
      refine x_iload_n 76 dR_settle_75 rfl rfl ?_
      refine x_goto 82 dR_settle_76 (by decide) ?_
      refine x_istore_n 83 dR_settle_82 rfl (by decide) rfl ?_
      refine x_aload_n 84 dR_settle_83 rfl rfl ?_
      refine x_get _ 87 fR_37 dR_settle_84 rfl rfl rfl ?_
      refine x_iload_n 88 dR_settle_87 rfl rfl ?_
      refine x_dup2 89 dR_settle_88 rfl rfl rfl ?_
      refine x_lald 90 dR_settle_89 rfl (h_rl 0 (by decide)) (by assumption) ?_
      refine x_aload_n 91 dR_settle_90 rfl rfl ?_
      refine x_get _ 94 fR_41 dR_settle_91 rfl rfl rfl ?_
      refine x_iload_n 95 dR_settle_94 rfl rfl ?_
      refine x_lald 96 dR_settle_95 rfl (h_rl 1 (by decide)) (by assumption) ?_
      refine x_ladd 97 dR_settle_96 rfl ?_
      refine y_rl0 98 dR_settle_97 rfl (by assumption) ?_
      refine x_aload_n 99 dR_settle_98 rfl rfl ?_
      refine x_get _ 102 fR_41 dR_settle_99 rfl rfl rfl ?_
      refine x_iload_n 103 dR_settle_102 rfl rfl ?_
      refine x_lconst 0 104 dR_settle_103 rfl rfl ?_
      refine y_rl1 105 dR_settle_104 rfl (by assumption) ?_
      refine x_iinc 108 dR_settle_105 rfl rfl (by decide) rfl ?_
      refine x_goto 59 dR_settle_108 (by decide) ?_
      exact ih _ _ _ (by rw [i_inc (by omega) (by omega)]; omega) (by rw [i_inc (by omega) (by omega)]; omega) (by simp only [smB, if_pos h72])
theorem lp_sm1 (T : Nat → Nat → Int32) : ∀ (n : Nat) (e : Int32) (A : Nat → Nat → Int32), MC A → 0 ≤ e.toInt → e.toInt + n = (A 13 0).toInt → smA n e A = T → x_X l G mR_settle 0 0 0 [] (QM N I J P V ((smB 5 0 B 0).1, (smE T, (smB 5 0 B 0).2))) 4 [some (xR (some (14, 0))), some (xI 0), some (xI e)] [] (hp N I J P V A B) := by
  intro n
  induction n with
  | zero =>
    intro e A hc he0 he1 hT
    subst hT
    refine x_iload_n 5 dR_settle_4 rfl rfl ?_
    refine x_aload_n 6 dR_settle_5 rfl rfl ?_
    refine x_get _ 9 fR_57 dR_settle_6 rfl rfl rfl ?_
    refine x_icmp_ge 43 12 dR_settle_9 (by decide) rfl (fun h9 => ?_) (fun h9 => absurd (show A 13 0 ≤ e from by rw [i_le]; omega) h9)
    refine x_aload_n 44 dR_settle_43 rfl rfl ?_
    refine x_get _ 47 fR_47 dR_settle_44 rfl rfl rfl ?_
    refine x_iconst 0 48 dR_settle_47 rfl rfl ?_
    refine x_iconst 0 49 dR_settle_48 rfl rfl ?_
    refine y_isOpen 50 dR_settle_49 rfl (vp_of (by decide) (by decide)) rfl ?_
    refine x_aload_n 51 dR_settle_50 rfl rfl ?_
    refine x_get _ 54 fR_47 dR_settle_51 rfl rfl rfl ?_
    refine x_iconst 1 55 dR_settle_54 rfl rfl ?_
    refine x_iconst 0 56 dR_settle_55 rfl rfl ?_
    refine y_isOpen 57 dR_settle_56 rfl (vp_of (by decide) (by decide)) rfl ?_
    refine x_iconst 0 58 dR_settle_57 rfl rfl ?_
    refine x_istore_n 59 dR_settle_58 rfl (by decide) rfl ?_
    exact lp_sm2 (smB 5 0 B 0) 5 0 0 B (by decide) (by decide) rfl
  | succ n ih =>
    intro e A hc he0 he1 hT
    have hc2 := hc.2
    have hin : vp_in e 120 := vp_of (by omega) (by omega)
    have hlt : ¬ A 13 0 ≤ e := by rw [i_le]; omega
    refine x_iload_n 5 dR_settle_4 rfl rfl ?_
    refine x_aload_n 6 dR_settle_5 rfl rfl ?_
    refine x_get _ 9 fR_57 dR_settle_6 rfl rfl rfl ?_
    refine x_icmp_ge 43 12 dR_settle_9 (by decide) rfl (fun h9 => absurd h9 hlt) (fun h9 => ?_)
    refine x_aload_n 13 dR_settle_12 rfl rfl ?_
    refine x_get _ 16 fR_31 dR_settle_13 rfl rfl rfl ?_
    refine x_iload_n 17 dR_settle_16 rfl rfl ?_
    refine x_aload_n 18 dR_settle_17 rfl rfl ?_
    refine x_get _ 21 fR_31 dR_settle_18 rfl rfl rfl ?_
    refine x_iload_n 22 dR_settle_21 rfl rfl ?_
    refine x_iald 23 dR_settle_22 rfl (h_ra 7 (by decide)) (by assumption) ?_
    refine x_if_ne 30 26 dR_settle_23 (by decide) rfl (fun h23 => ?_) (fun h23 => ?_)
    · skip
      refine x_aload_n 31 dR_settle_30 rfl rfl ?_
      refine x_get _ 34 fR_31 dR_settle_31 rfl rfl rfl ?_
      refine x_iload_n 35 dR_settle_34 rfl rfl ?_
      refine x_iald 36 dR_settle_35 rfl (h_ra 7 (by decide)) (by assumption) ?_
      refine y_ra7 37 dR_settle_36 rfl (by assumption) ?_
      refine x_iinc 40 dR_settle_37 rfl rfl (by decide) rfl ?_
      refine x_goto 4 dR_settle_40 (by decide) ?_
      exact ih _ _ (by exact hc) (by rw [i_inc (by omega) (by omega)]; omega) (by rw [i_inc (by omega) (by omega)]; show _ = (A 13 0).toInt; omega) (by rw [← hT]; simp only [smA, if_neg h23])
    · skip
      refine x_iconst 2 27 dR_settle_26 rfl rfl ?_
      refine x_goto 36 dR_settle_27 (by decide) ?_
      refine y_ra7 37 dR_settle_36 rfl (by assumption) ?_
      refine x_iinc 40 dR_settle_37 rfl rfl (by decide) rfl ?_
      refine x_goto 4 dR_settle_40 (by decide) ?_
      exact ih _ _ (by exact hc) (by rw [i_inc (by omega) (by omega)]; omega) (by rw [i_inc (by omega) (by omega)]; show _ = (A 13 0).toInt; omega) (by rw [← hT]; simp only [smA, if_pos h23])
def smM (A : Nat → Nat → Int32) (B : Nat → Nat → Int64) : Int32 × mAB := ((smB 5 0 B 0).1, (smE (smA (A 13 0).toNatClampNeg 0 A), (smB 5 0 B 0).2))
theorem cR_settle (hc : MC A) : x_C l G mR_settle 0 0 0 [xR (some (14, 0))] (hp N I J P V A B) [] (QM N I J P V (smM A B)) := by
  refine x_C.at [some (xR (some (14, 0))), none, none] rfl (Nat.le_of_ble_eq_true rfl) rfl ?_
  refine x_iconst 0 1 dR_settle_0 rfl rfl ?_
  refine x_istore_n 2 dR_settle_1 rfl (by decide) rfl ?_
  refine x_iconst 0 3 dR_settle_2 rfl rfl ?_
  refine x_istore_n 4 dR_settle_3 rfl (by decide) rfl ?_
  exact lp_sm1 _ (A 13 0).toNatClampNeg 0 A hc (by decide) (mc_sum hc) rfl
end MF
