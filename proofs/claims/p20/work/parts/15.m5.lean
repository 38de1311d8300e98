section M5
variable {l : Launch} {G : xG} {N : Nat} {I : Nat → Nat → Int32} {J : Nat → Nat → Int64} {P : Nat → Nat → Option xQ} {V : Nat → Nat → Int32} {A : Nat → Nat → Int32} {B : Nat → Nat → Int64}
def chs (I : Nat → Nat → Int32) (v g rf : Int32) : Nat → Int32 → Int32 → Int32 → Int32 → Int32 → Int32 → Int32
  | 0, _, le, gr, ne, amb, ams => if amb = 0 then (if ams = 0 then ne else le) else gr
  | n + 1, p, le, gr, ne, amb, ams => if vol I p = v then (if i_abs (sur I p) = g then chs I v g rf n (p + Int32.ofInt 1) (if le = 0 then p else le) p (if ne = 0 then p else if i_abs (ne - rf) ≤ i_abs (p - rf) then ne else p) (if amb = 0 then 0 else if sur I p ≤ 0 then 0 else 1) (if ams = 0 then 0 else if 0 ≤ sur I p then 0 else 1) else chs I v g rf n (p + Int32.ofInt 1) le gr ne amb ams) else chs I v g rf n (p + Int32.ofInt 1) le gr ne amb ams
def fcp (I : Nat → Nat → Int32) (rf : Int32) : Nat → Int32 → Int32 → Int32 → Int32
  | 0, _, mv, lg => if mv = 0 then 0 else chs I mv lg rf 63 1 0 0 0 1 1
  | n + 1, p, mv, lg => if mv < vol I p then fcp I rf n (p + Int32.ofInt 1) (vol I p) (i_abs (sur I p)) else if vol I p = mv then (if lg ≤ i_abs (sur I p) then fcp I rf n (p + Int32.ofInt 1) mv lg else fcp I rf n (p + Int32.ofInt 1) (vol I p) (i_abs (sur I p))) else fcp I rf n (p + Int32.ofInt 1) mv lg
theorem c63 : (63 : Int32).toInt = 63 := by decide
theorem lp_choose (v g rf T : Int32) : ∀ (n : Nat) (p le gr ne amb ams : Int32) (x : Option xV), p.toInt + n = 64 → 1 ≤ p.toInt → chs I v g rf n p le gr ne amb ams = T → x_X l G mS_choose 2 0 0 [] (x_is (some (xI T)) (hp N I J P V A B)) 18 [some (xR (some (11, 0))), some (xI v), some (xI g), some (xI rf), some (xI le), some (xI gr), some (xI ne), some (xI amb), some (xI ams), some (xI p), x] [] (hp N I J P V A B) := by
  intro n
  induction n with
  | zero =>
    intro p le gr ne amb ams x hp1 hp2 hT
    subst hT
    refine x_iload 20 dS_choose_18 rfl rfl ?_
    refine x_bipush (63) 22 dS_choose_20 rfl rfl ?_
    refine x_icmp_gt 139 25 dS_choose_22 (by decide) rfl (fun h22 => ?_) (fun h22 => absurd (show (63 : Int32) < p from by rw [i_lt, c63]; omega) h22)
    refine x_iload 141 dS_choose_139 rfl rfl ?_
    refine x_if_eq 147 144 dS_choose_141 (by decide) rfl (fun h141 => ?_) (fun h141 => ?_)
    · skip
      refine x_iload 149 dS_choose_147 rfl rfl ?_
      refine x_if_eq 157 152 dS_choose_149 (by decide) rfl (fun h149 => ?_) (fun h149 => ?_)
      · skip
        refine x_iload 159 dS_choose_157 rfl rfl ?_
        exact x_iret dS_choose_159 rfl rfl ⟨by simp only [chs, h22, h141, h149, if_true, if_false], rfl⟩
      · skip
        refine x_iload 154 dS_choose_152 rfl rfl ?_
        refine x_goto 159 dS_choose_154 (by decide) ?_
        exact x_iret dS_choose_159 rfl rfl ⟨by simp only [chs, h22, h141, h149, if_true, if_false], rfl⟩
    · skip
      refine x_iload 146 dS_choose_144 rfl rfl ?_
      exact x_iret dS_choose_146 rfl rfl ⟨by simp only [chs, h22, h141, if_true, if_false], rfl⟩
  | succ n ih =>
    intro p le gr ne amb ams x hp1 hp2 hT
    subst hT
    have hin : vp_in p 65 := vp_of (by omega) (by omega)
    have hlt : ¬ (63 : Int32) < p := by rw [i_lt, c63]; omega
    refine x_iload 20 dS_choose_18 rfl rfl ?_
    refine x_bipush (63) 22 dS_choose_20 rfl rfl ?_
    refine x_icmp_gt 139 25 dS_choose_22 (by decide) rfl (fun h22 => absurd h22 hlt) (fun h22 => ?_)
    refine x_aload_n 26 dS_choose_25 rfl rfl ?_
    refine x_iload 28 dS_choose_26 rfl rfl ?_
    refine x_fVv 31 (cS_surplusAt hin) kS_26 oS_surplusAt rfl rfl dS_choose_28 rfl rfl (by decide) (Nat.le_of_ble_eq_true rfl) ?_
    refine x_istore 33 dS_choose_31 rfl (by decide) rfl ?_
    refine x_aload_n 34 dS_choose_33 rfl rfl ?_
    refine x_iload 36 dS_choose_34 rfl rfl ?_
    refine x_fVv 39 (cS_volumeAt hin) kS_22 oS_volumeAt rfl rfl dS_choose_36 rfl rfl (by decide) (Nat.le_of_ble_eq_true rfl) ?_
    refine x_iload_n 40 dS_choose_39 rfl rfl ?_
    refine x_icmp_ne 133 43 dS_choose_40 (by decide) rfl (fun h40 => ?_) (fun h40 => ?_)
    · skip
      refine x_iinc 136 dS_choose_133 rfl rfl (by decide) rfl ?_
      refine x_goto 18 dS_choose_136 (by decide) ?_
      exact ih _ _ _ _ _ _ _ (by rw [i_inc (by omega) (by omega)]; omega) (by rw [i_inc (by omega) (by omega)]; omega) (by simp only [chs, if_neg h40])
    · skip
      refine x_iload 45 dS_choose_43 rfl rfl ?_
      refine x_mabs 48 kS_29 dS_choose_45 rfl (by decide) (Nat.le_of_ble_eq_true rfl) ?_
      refine x_iload_n 49 dS_choose_48 rfl rfl ?_
      refine x_icmp_eq 55 52 dS_choose_49 (by decide) rfl (fun h49 => ?_) (fun h49 => ?_)
      · skip
        refine x_iload 57 dS_choose_55 rfl rfl ?_
        refine x_if_ne 65 60 dS_choose_57 (by decide) rfl (fun h57 => ?_) (fun h57 => ?_)
        · skip
          refine x_iload 67 dS_choose_65 rfl rfl ?_
          refine x_istore 69 dS_choose_67 rfl (by decide) rfl ?_
          refine x_iload 71 dS_choose_69 rfl rfl ?_
          refine x_istore 73 dS_choose_71 rfl (by decide) rfl ?_
          refine x_iload 75 dS_choose_73 rfl rfl ?_
          refine x_if_eq 95 78 dS_choose_75 (by decide) rfl (fun h75 => ?_) (fun h75 => ?_)
          · skip
            refine x_iload 97 dS_choose_95 rfl rfl ?_
            refine x_istore 99 dS_choose_97 rfl (by decide) rfl ?_
            refine x_iload 101 dS_choose_99 rfl rfl ?_
            refine x_if_eq 113 104 dS_choose_101 (by decide) rfl (fun h101 => ?_) (fun h101 => ?_)
            · skip
              refine x_iconst 0 114 dS_choose_113 rfl rfl ?_
              refine x_istore 116 dS_choose_114 rfl (by decide) rfl ?_
              refine x_iload 118 dS_choose_116 rfl rfl ?_
              refine x_if_eq 130 121 dS_choose_118 (by decide) rfl (fun h118 => ?_) (fun h118 => ?_)
              · skip
                refine x_iconst 0 131 dS_choose_130 rfl rfl ?_
                refine x_istore 133 dS_choose_131 rfl (by decide) rfl ?_
                refine x_iinc 136 dS_choose_133 rfl rfl (by decide) rfl ?_
                refine x_goto 18 dS_choose_136 (by decide) ?_
                exact ih _ _ _ _ _ _ _ (by rw [i_inc (by omega) (by omega)]; omega) (by rw [i_inc (by omega) (by omega)]; omega) (by simp only [chs, if_pos h40, if_pos h49, if_neg h57, if_pos h75, if_pos h101, if_pos h118])
              · skip
                refine x_iload 123 dS_choose_121 rfl rfl ?_
                refine x_if_ge 130 126 dS_choose_123 (by decide) rfl (fun h123 => ?_) (fun h123 => ?_)
                · skip
                  refine x_iconst 0 131 dS_choose_130 rfl rfl ?_
                  refine x_istore 133 dS_choose_131 rfl (by decide) rfl ?_
                  refine x_iinc 136 dS_choose_133 rfl rfl (by decide) rfl ?_
                  refine x_goto 18 dS_choose_136 (by decide) ?_
                  exact ih _ _ _ _ _ _ _ (by rw [i_inc (by omega) (by omega)]; omega) (by rw [i_inc (by omega) (by omega)]; omega) (by simp only [chs, if_pos h40, if_pos h49, if_neg h57, if_pos h75, if_pos h101, if_neg h118, if_pos h123])
                · skip
                  refine x_iconst 1 127 dS_choose_126 rfl rfl ?_
                  refine x_goto 131 dS_choose_127 (by decide) ?_
                  refine x_istore 133 dS_choose_131 rfl (by decide) rfl ?_
                  refine x_iinc 136 dS_choose_133 rfl rfl (by decide) rfl ?_
                  refine x_goto 18 dS_choose_136 (by decide) ?_
                  exact ih _ _ _ _ _ _ _ (by rw [i_inc (by omega) (by omega)]; omega) (by rw [i_inc (by omega) (by omega)]; omega) (by simp only [chs, if_pos h40, if_pos h49, if_neg h57, if_pos h75, if_pos h101, if_neg h118, if_neg h123])
            · skip
              refine x_iload 106 dS_choose_104 rfl rfl ?_
              refine x_if_le 113 109 dS_choose_106 (by decide) rfl (fun h106 => ?_) (fun h106 => ?_)
              · skip
                refine x_iconst 0 114 dS_choose_113 rfl rfl ?_
                refine x_istore 116 dS_choose_114 rfl (by decide) rfl ?_
                refine x_iload 118 dS_choose_116 rfl rfl ?_
                refine x_if_eq 130 121 dS_choose_118 (by decide) rfl (fun h118 => ?_) (fun h118 => ?_)
                · skip
                  refine x_iconst 0 131 dS_choose_130 rfl rfl ?_
                  refine x_istore 133 dS_choose_131 rfl (by decide) rfl ?_
                  refine x_iinc 136 dS_choose_133 rfl rfl (by decide) rfl ?_
                  refine x_goto 18 dS_choose_136 (by decide) ?_
                  exact ih _ _ _ _ _ _ _ (by rw [i_inc (by omega) (by omega)]; omega) (by rw [i_inc (by omega) (by omega)]; omega) (by simp only [chs, if_pos h40, if_pos h49, if_neg h57, if_pos h75, if_neg h101, if_pos h106, if_pos h118])
                · skip
                  refine x_iload 123 dS_choose_121 rfl rfl ?_
                  refine x_if_ge 130 126 dS_choose_123 (by decide) rfl (fun h123 => ?_) (fun h123 => ?_)
                  · skip
                    refine x_iconst 0 131 dS_choose_130 rfl rfl ?_
                    refine x_istore 133 dS_choose_131 rfl (by decide) rfl ?_
                    refine x_iinc 136 dS_choose_133 rfl rfl (by decide) rfl ?_
                    refine x_goto 18 dS_choose_136 (by decide) ?_
                    exact ih _ _ _ _ _ _ _ (by rw [i_inc (by omega) (by omega)]; omega) (by rw [i_inc (by omega) (by omega)]; omega) (by simp only [chs, if_pos h40, if_pos h49, if_neg h57, if_pos h75, if_neg h101, if_pos h106, if_neg h118, if_pos h123])
                  · skip
                    refine x_iconst 1 127 dS_choose_126 rfl rfl ?_
                    refine x_goto 131 dS_choose_127 (by decide) ?_
                    refine x_istore 133 dS_choose_131 rfl (by decide) rfl ?_
                    refine x_iinc 136 dS_choose_133 rfl rfl (by decide) rfl ?_
                    refine x_goto 18 dS_choose_136 (by decide) ?_
                    exact ih _ _ _ _ _ _ _ (by rw [i_inc (by omega) (by omega)]; omega) (by rw [i_inc (by omega) (by omega)]; omega) (by simp only [chs, if_pos h40, if_pos h49, if_neg h57, if_pos h75, if_neg h101, if_pos h106, if_neg h118, if_neg h123])
              · skip
                refine x_iconst 1 110 dS_choose_109 rfl rfl ?_
                refine x_goto 114 dS_choose_110 (by decide) ?_
                refine x_istore 116 dS_choose_114 rfl (by decide) rfl ?_
                refine x_iload 118 dS_choose_116 rfl rfl ?_
                refine x_if_eq 130 121 dS_choose_118 (by decide) rfl (fun h118 => ?_) (fun h118 => ?_)
                · skip
                  refine x_iconst 0 131 dS_choose_130 rfl rfl ?_
                  refine x_istore 133 dS_choose_131 rfl (by decide) rfl ?_
                  refine x_iinc 136 dS_choose_133 rfl rfl (by decide) rfl ?_
                  refine x_goto 18 dS_choose_136 (by decide) ?_
                  exact ih _ _ _ _ _ _ _ (by rw [i_inc (by omega) (by omega)]; omega) (by rw [i_inc (by omega) (by omega)]; omega) (by simp only [chs, if_pos h40, if_pos h49, if_neg h57, if_pos h75, if_neg h101, if_neg h106, if_pos h118])
                · skip
                  refine x_iload 123 dS_choose_121 rfl rfl ?_
                  refine x_if_ge 130 126 dS_choose_123 (by decide) rfl (fun h123 => ?_) (fun h123 => ?_)
                  · skip
                    refine x_iconst 0 131 dS_choose_130 rfl rfl ?_
                    refine x_istore 133 dS_choose_131 rfl (by decide) rfl ?_
                    refine x_iinc 136 dS_choose_133 rfl rfl (by decide) rfl ?_
                    refine x_goto 18 dS_choose_136 (by decide) ?_
                    exact ih _ _ _ _ _ _ _ (by rw [i_inc (by omega) (by omega)]; omega) (by rw [i_inc (by omega) (by omega)]; omega) (by simp only [chs, if_pos h40, if_pos h49, if_neg h57, if_pos h75, if_neg h101, if_neg h106, if_neg h118, if_pos h123])
                  · skip
                    refine x_iconst 1 127 dS_choose_126 rfl rfl ?_
                    refine x_goto 131 dS_choose_127 (by decide) ?_
                    refine x_istore 133 dS_choose_131 rfl (by decide) rfl ?_
                    refine x_iinc 136 dS_choose_133 rfl rfl (by decide) rfl ?_
                    refine x_goto 18 dS_choose_136 (by decide) ?_
                    exact ih _ _ _ _ _ _ _ (by rw [i_inc (by omega) (by omega)]; omega) (by rw [i_inc (by omega) (by omega)]; omega) (by simp only [chs, if_pos h40, if_pos h49, if_neg h57, if_pos h75, if_neg h101, if_neg h106, if_neg h118, if_neg h123])
          · skip
            refine x_iload 80 dS_choose_78 rfl rfl ?_
            refine x_iload_n 81 dS_choose_80 rfl rfl ?_
            refine x_isub 82 dS_choose_81 rfl ?_
            refine x_mabs 85 kS_29 dS_choose_82 rfl (by decide) (Nat.le_of_ble_eq_true rfl) ?_
            refine x_iload 87 dS_choose_85 rfl rfl ?_
            refine x_iload_n 88 dS_choose_87 rfl rfl ?_
            refine x_isub 89 dS_choose_88 rfl ?_
            refine x_mabs 92 kS_29 dS_choose_89 rfl (by decide) (Nat.le_of_ble_eq_true rfl) ?_
            refine x_icmp_ge 99 95 dS_choose_92 (by decide) rfl (fun h92 => ?_) (fun h92 => ?_)
            · skip
              refine x_iload 101 dS_choose_99 rfl rfl ?_
              refine x_if_eq 113 104 dS_choose_101 (by decide) rfl (fun h101 => ?_) (fun h101 => ?_)
              · skip
                refine x_iconst 0 114 dS_choose_113 rfl rfl ?_
                refine x_istore 116 dS_choose_114 rfl (by decide) rfl ?_
                refine x_iload 118 dS_choose_116 rfl rfl ?_
                refine x_if_eq 130 121 dS_choose_118 (by decide) rfl (fun h118 => ?_) (fun h118 => ?_)
                · skip
                  refine x_iconst 0 131 dS_choose_130 rfl rfl ?_
                  refine x_istore 133 dS_choose_131 rfl (by decide) rfl ?_
                  refine x_iinc 136 dS_choose_133 rfl rfl (by decide) rfl ?_
                  refine x_goto 18 dS_choose_136 (by decide) ?_
                  exact ih _ _ _ _ _ _ _ (by rw [i_inc (by omega) (by omega)]; omega) (by rw [i_inc (by omega) (by omega)]; omega) (by simp only [chs, if_pos h40, if_pos h49, if_neg h57, if_neg h75, if_pos h92, if_pos h101, if_pos h118])
                · skip
                  refine x_iload 123 dS_choose_121 rfl rfl ?_
                  refine x_if_ge 130 126 dS_choose_123 (by decide) rfl (fun h123 => ?_) (fun h123 => ?_)
                  · skip
                    refine x_iconst 0 131 dS_choose_130 rfl rfl ?_
                    refine x_istore 133 dS_choose_131 rfl (by decide) rfl ?_
                    refine x_iinc 136 dS_choose_133 rfl rfl (by decide) rfl ?_
                    refine x_goto 18 dS_choose_136 (by decide) ?_
                    exact ih _ _ _ _ _ _ _ (by rw [i_inc (by omega) (by omega)]; omega) (by rw [i_inc (by omega) (by omega)]; omega) (by simp only [chs, if_pos h40, if_pos h49, if_neg h57, if_neg h75, if_pos h92, if_pos h101, if_neg h118, if_pos h123])
                  · skip
                    refine x_iconst 1 127 dS_choose_126 rfl rfl ?_
                    refine x_goto 131 dS_choose_127 (by decide) ?_
                    refine x_istore 133 dS_choose_131 rfl (by decide) rfl ?_
                    refine x_iinc 136 dS_choose_133 rfl rfl (by decide) rfl ?_
                    refine x_goto 18 dS_choose_136 (by decide) ?_
                    exact ih _ _ _ _ _ _ _ (by rw [i_inc (by omega) (by omega)]; omega) (by rw [i_inc (by omega) (by omega)]; omega) (by simp only [chs, if_pos h40, if_pos h49, if_neg h57, if_neg h75, if_pos h92, if_pos h101, if_neg h118, if_neg h123])
              · skip
                refine x_iload 106 dS_choose_104 rfl rfl ?_
                refine x_if_le 113 109 dS_choose_106 (by decide) rfl (fun h106 => ?_) (fun h106 => ?_)
                · skip
                  refine x_iconst 0 114 dS_choose_113 rfl rfl ?_
                  refine x_istore 116 dS_choose_114 rfl (by decide) rfl ?_
                  refine x_iload 118 dS_choose_116 rfl rfl ?_
                  refine x_if_eq 130 121 dS_choose_118 (by decide) rfl (fun h118 => ?_) (fun h118 => ?_)
                  · skip
                    refine x_iconst 0 131 dS_choose_130 rfl rfl ?_
                    refine x_istore 133 dS_choose_131 rfl (by decide) rfl ?_
                    refine x_iinc 136 dS_choose_133 rfl rfl (by decide) rfl ?_
                    refine x_goto 18 dS_choose_136 (by decide) ?_
                    exact ih _ _ _ _ _ _ _ (by rw [i_inc (by omega) (by omega)]; omega) (by rw [i_inc (by omega) (by omega)]; omega) (by simp only [chs, if_pos h40, if_pos h49, if_neg h57, if_neg h75, if_pos h92, if_neg h101, if_pos h106, if_pos h118])
                  · skip
                    refine x_iload 123 dS_choose_121 rfl rfl ?_
                    refine x_if_ge 130 126 dS_choose_123 (by decide) rfl (fun h123 => ?_) (fun h123 => ?_)
                    · skip
                      refine x_iconst 0 131 dS_choose_130 rfl rfl ?_
                      refine x_istore 133 dS_choose_131 rfl (by decide) rfl ?_
                      refine x_iinc 136 dS_choose_133 rfl rfl (by decide) rfl ?_
                      refine x_goto 18 dS_choose_136 (by decide) ?_
                      exact ih _ _ _ _ _ _ _ (by rw [i_inc (by omega) (by omega)]; omega) (by rw [i_inc (by omega) (by omega)]; omega) (by simp only [chs, if_pos h40, if_pos h49, if_neg h57, if_neg h75, if_pos h92, if_neg h101, if_pos h106, if_neg h118, if_pos h123])
                    · skip
                      refine x_iconst 1 127 dS_choose_126 rfl rfl ?_
                      refine x_goto 131 dS_choose_127 (by decide) ?_
                      refine x_istore 133 dS_choose_131 rfl (by decide) rfl ?_
                      refine x_iinc 136 dS_choose_133 rfl rfl (by decide) rfl ?_
                      refine x_goto 18 dS_choose_136 (by decide) ?_
                      exact ih _ _ _ _ _ _ _ (by rw [i_inc (by omega) (by omega)]; omega) (by rw [i_inc (by omega) (by omega)]; omega) (by simp only [chs, if_pos h40, if_pos h49, if_neg h57, if_neg h75, if_pos h92, if_neg h101, if_pos h106, if_neg h118, if_neg h123])
                · skip
                  refine x_iconst 1 110 dS_choose_109 rfl rfl ?_
                  refine x_goto 114 dS_choose_110 (by decide) ?_
                  refine x_istore 116 dS_choose_114 rfl (by decide) rfl ?_
                  refine x_iload 118 dS_choose_116 rfl rfl ?_
                  refine x_if_eq 130 121 dS_choose_118 (by decide) rfl (fun h118 => ?_) (fun h118 => ?_)
                  · skip
                    refine x_iconst 0 131 dS_choose_130 rfl rfl ?_
                    refine x_istore 133 dS_choose_131 rfl (by decide) rfl ?_
                    refine x_iinc 136 dS_choose_133 rfl rfl (by decide) rfl ?_
                    refine x_goto 18 dS_choose_136 (by decide) ?_
                    exact ih _ _ _ _ _ _ _ (by rw [i_inc (by omega) (by omega)]; omega) (by rw [i_inc (by omega) (by omega)]; omega) (by simp only [chs, if_pos h40, if_pos h49, if_neg h57, if_neg h75, if_pos h92, if_neg h101, if_neg h106, if_pos h118])
                  · skip
                    refine x_iload 123 dS_choose_121 rfl rfl ?_
                    refine x_if_ge 130 126 dS_choose_123 (by decide) rfl (fun h123 => ?_) (fun h123 => ?_)
                    · skip
                      refine x_iconst 0 131 dS_choose_130 rfl rfl ?_
                      refine x_istore 133 dS_choose_131 rfl (by decide) rfl ?_
                      refine x_iinc 136 dS_choose_133 rfl rfl (by decide) rfl ?_
                      refine x_goto 18 dS_choose_136 (by decide) ?_
                      exact ih _ _ _ _ _ _ _ (by rw [i_inc (by omega) (by omega)]; omega) (by rw [i_inc (by omega) (by omega)]; omega) (by simp only [chs, if_pos h40, if_pos h49, if_neg h57, if_neg h75, if_pos h92, if_neg h101, if_neg h106, if_neg h118, if_pos h123])
                    · skip
                      refine x_iconst 1 127 dS_choose_126 rfl rfl ?_
                      refine x_goto 131 dS_choose_127 (by decide) ?_
                      refine x_istore 133 dS_choose_131 rfl (by decide) rfl ?_
                      refine x_iinc 136 dS_choose_133 rfl rfl (by decide) rfl ?_
                      refine x_goto 18 dS_choose_136 (by decide) ?_
                      exact ih _ _ _ _ _ _ _ (by rw [i_inc (by omega) (by omega)]; omega) (by rw [i_inc (by omega) (by omega)]; omega) (by simp only [chs, if_pos h40, if_pos h49, if_neg h57, if_neg h75, if_pos h92, if_neg h101, if_neg h106, if_neg h118, if_neg h123])
            · skip
              refine x_iload 97 dS_choose_95 rfl rfl ?_
              refine x_istore 99 dS_choose_97 rfl (by decide) rfl ?_
              refine x_iload 101 dS_choose_99 rfl rfl ?_
              refine x_if_eq 113 104 dS_choose_101 (by decide) rfl (fun h101 => ?_) (fun h101 => ?_)
              · skip
                refine x_iconst 0 114 dS_choose_113 rfl rfl ?_
                refine x_istore 116 dS_choose_114 rfl (by decide) rfl ?_
                refine x_iload 118 dS_choose_116 rfl rfl ?_
                refine x_if_eq 130 121 dS_choose_118 (by decide) rfl (fun h118 => ?_) (fun h118 => ?_)
                · skip
                  refine x_iconst 0 131 dS_choose_130 rfl rfl ?_
                  refine x_istore 133 dS_choose_131 rfl (by decide) rfl ?_
                  refine x_iinc 136 dS_choose_133 rfl rfl (by decide) rfl ?_
                  refine x_goto 18 dS_choose_136 (by decide) ?_
                  exact ih _ _ _ _ _ _ _ (by rw [i_inc (by omega) (by omega)]; omega) (by rw [i_inc (by omega) (by omega)]; omega) (by simp only [chs, if_pos h40, if_pos h49, if_neg h57, if_neg h75, if_neg h92, if_pos h101, if_pos h118])
                · skip
                  refine x_iload 123 dS_choose_121 rfl rfl ?_
                  refine x_if_ge 130 126 dS_choose_123 (by decide) rfl (fun h123 => ?_) (fun h123 => ?_)
                  · skip
                    refine x_iconst 0 131 dS_choose_130 rfl rfl ?_
                    refine x_istore 133 dS_choose_131 rfl (by decide) rfl ?_
                    refine x_iinc 136 dS_choose_133 rfl rfl (by decide) rfl ?_
                    refine x_goto 18 dS_choose_136 (by decide) ?_
                    exact ih _ _ _ _ _ _ _ (by rw [i_inc (by omega) (by omega)]; omega) (by rw [i_inc (by omega) (by omega)]; omega) (by simp only [chs, if_pos h40, if_pos h49, if_neg h57, if_neg h75, if_neg h92, if_pos h101, if_neg h118, if_pos h123])
                  · skip
                    refine x_iconst 1 127 dS_choose_126 rfl rfl ?_
                    refine x_goto 131 dS_choose_127 (by decide) ?_
                    refine x_istore 133 dS_choose_131 rfl (by decide) rfl ?_
                    refine x_iinc 136 dS_choose_133 rfl rfl (by decide) rfl ?_
                    refine x_goto 18 dS_choose_136 (by decide) ?_
                    exact ih _ _ _ _ _ _ _ (by rw [i_inc (by omega) (by omega)]; omega) (by rw [i_inc (by omega) (by omega)]; omega) (by simp only [chs, if_pos h40, if_pos h49, if_neg h57, if_neg h75, if_neg h92, if_pos h101, if_neg h118, if_neg h123])
              · skip
                refine x_iload 106 dS_choose_104 rfl rfl ?_
                refine x_if_le 113 109 dS_choose_106 (by decide) rfl (fun h106 => ?_) (fun h106 => ?_)
                · skip
                  refine x_iconst 0 114 dS_choose_113 rfl rfl ?_
                  refine x_istore 116 dS_choose_114 rfl (by decide) rfl ?_
                  refine x_iload 118 dS_choose_116 rfl rfl ?_
                  refine x_if_eq 130 121 dS_choose_118 (by decide) rfl (fun h118 => ?_) (fun h118 => ?_)
                  · skip
                    refine x_iconst 0 131 dS_choose_130 rfl rfl ?_
                    refine x_istore 133 dS_choose_131 rfl (by decide) rfl ?_
                    refine x_iinc 136 dS_choose_133 rfl rfl (by decide) rfl ?_
                    refine x_goto 18 dS_choose_136 (by decide) ?_
                    exact ih _ _ _ _ _ _ _ (by rw [i_inc (by omega) (by omega)]; omega) (by rw [i_inc (by omega) (by omega)]; omega) (by simp only [chs, if_pos h40, if_pos h49, if_neg h57, if_neg h75, if_neg h92, if_neg h101, if_pos h106, if_pos h118])
                  · skip
                    refine x_iload 123 dS_choose_121 rfl rfl ?_
                    refine x_if_ge 130 126 dS_choose_123 (by decide) rfl (fun h123 => ?_) (fun h123 => ?_)
                    · skip
                      refine x_iconst 0 131 dS_choose_130 rfl rfl ?_
                      refine x_istore 133 dS_choose_131 rfl (by decide) rfl ?_
                      refine x_iinc 136 dS_choose_133 rfl rfl (by decide) rfl ?_
                      refine x_goto 18 dS_choose_136 (by decide) ?_
                      exact ih _ _ _ _ _ _ _ (by rw [i_inc (by omega) (by omega)]; omega) (by rw [i_inc (by omega) (by omega)]; omega) (by simp only [chs, if_pos h40, if_pos h49, if_neg h57, if_neg h75, if_neg h92, if_neg h101, if_pos h106, if_neg h118, if_pos h123])
                    · skip
                      refine x_iconst 1 127 dS_choose_126 rfl rfl ?_
                      refine x_goto 131 dS_choose_127 (by decide) ?_
                      refine x_istore 133 dS_choose_131 rfl (by decide) rfl ?_
                      refine x_iinc 136 dS_choose_133 rfl rfl (by decide) rfl ?_
                      refine x_goto 18 dS_choose_136 (by decide) ?_
                      exact ih _ _ _ _ _ _ _ (by rw [i_inc (by omega) (by omega)]; omega) (by rw [i_inc (by omega) (by omega)]; omega) (by simp only [chs, if_pos h40, if_pos h49, if_neg h57, if_neg h75, if_neg h92, if_neg h101, if_pos h106, if_neg h118, if_neg h123])
                · skip
                  refine x_iconst 1 110 dS_choose_109 rfl rfl ?_
                  refine x_goto 114 dS_choose_110 (by decide) ?_
                  refine x_istore 116 dS_choose_114 rfl (by decide) rfl ?_
                  refine x_iload 118 dS_choose_116 rfl rfl ?_
                  refine x_if_eq 130 121 dS_choose_118 (by decide) rfl (fun h118 => ?_) (fun h118 => ?_)
                  · skip
                    refine x_iconst 0 131 dS_choose_130 rfl rfl ?_
                    refine x_istore 133 dS_choose_131 rfl (by decide) rfl ?_
                    refine x_iinc 136 dS_choose_133 rfl rfl (by decide) rfl ?_
                    refine x_goto 18 dS_choose_136 (by decide) ?_
                    exact ih _ _ _ _ _ _ _ (by rw [i_inc (by omega) (by omega)]; omega) (by rw [i_inc (by omega) (by omega)]; omega) (by simp only [chs, if_pos h40, if_pos h49, if_neg h57, if_neg h75, if_neg h92, if_neg h101, if_neg h106, if_pos h118])
                  · skip
                    refine x_iload 123 dS_choose_121 rfl rfl ?_
                    refine x_if_ge 130 126 dS_choose_123 (by decide) rfl (fun h123 => ?_) (fun h123 => ?_)
                    · skip
                      refine x_iconst 0 131 dS_choose_130 rfl rfl ?_
                      refine x_istore 133 dS_choose_131 rfl (by decide) rfl ?_
                      refine x_iinc 136 dS_choose_133 rfl rfl (by decide) rfl ?_
                      refine x_goto 18 dS_choose_136 (by decide) ?_
                      exact ih _ _ _ _ _ _ _ (by rw [i_inc (by omega) (by omega)]; omega) (by rw [i_inc (by omega) (by omega)]; omega) (by simp only [chs, if_pos h40, if_pos h49, if_neg h57, if_neg h75, if_neg h92, if_neg h101, if_neg h106, if_neg h118, if_pos h123])
                    · skip
                      refine x_iconst 1 127 dS_choose_126 rfl rfl ?_
                      refine x_goto 131 dS_choose_127 (by decide) ?_
                      refine x_istore 133 dS_choose_131 rfl (by decide) rfl ?_
                      refine x_iinc 136 dS_choose_133 rfl rfl (by decide) rfl ?_
                      refine x_goto 18 dS_choose_136 (by decide) ?_
                      exact ih _ _ _ _ _ _ _ (by rw [i_inc (by omega) (by omega)]; omega) (by rw [i_inc (by omega) (by omega)]; omega) (by simp only [chs, if_pos h40, if_pos h49, if_neg h57, if_neg h75, if_neg h92, if_neg h101, if_neg h106, if_neg h118, if_neg h123])
        · skip
          refine x_iload 62 dS_choose_60 rfl rfl ?_
          refine x_goto 67 dS_choose_62 (by decide) ?_
          refine x_istore 69 dS_choose_67 rfl (by decide) rfl ?_
          refine x_iload 71 dS_choose_69 rfl rfl ?_
          refine x_istore 73 dS_choose_71 rfl (by decide) rfl ?_
          refine x_iload 75 dS_choose_73 rfl rfl ?_
          refine x_if_eq 95 78 dS_choose_75 (by decide) rfl (fun h75 => ?_) (fun h75 => ?_)
          · skip
            refine x_iload 97 dS_choose_95 rfl rfl ?_
            refine x_istore 99 dS_choose_97 rfl (by decide) rfl ?_
            refine x_iload 101 dS_choose_99 rfl rfl ?_
            refine x_if_eq 113 104 dS_choose_101 (by decide) rfl (fun h101 => ?_) (fun h101 => ?_)
            · skip
              refine x_iconst 0 114 dS_choose_113 rfl rfl ?_
              refine x_istore 116 dS_choose_114 rfl (by decide) rfl ?_
              refine x_iload 118 dS_choose_116 rfl rfl ?_
              refine x_if_eq 130 121 dS_choose_118 (by decide) rfl (fun h118 => ?_) (fun h118 => ?_)
              · skip
                refine x_iconst 0 131 dS_choose_130 rfl rfl ?_
                refine x_istore 133 dS_choose_131 rfl (by decide) rfl ?_
                refine x_iinc 136 dS_choose_133 rfl rfl (by decide) rfl ?_
                refine x_goto 18 dS_choose_136 (by decide) ?_
                exact ih _ _ _ _ _ _ _ (by rw [i_inc (by omega) (by omega)]; omega) (by rw [i_inc (by omega) (by omega)]; omega) (by simp only [chs, if_pos h40, if_pos h49, if_pos h57, if_pos h75, if_pos h101, if_pos h118])
              · skip
                refine x_iload 123 dS_choose_121 rfl rfl ?_
                refine x_if_ge 130 126 dS_choose_123 (by decide) rfl (fun h123 => ?_) (fun h123 => ?_)
                · skip
                  refine x_iconst 0 131 dS_choose_130 rfl rfl ?_
                  refine x_istore 133 dS_choose_131 rfl (by decide) rfl ?_
                  refine x_iinc 136 dS_choose_133 rfl rfl (by decide) rfl ?_
                  refine x_goto 18 dS_choose_136 (by decide) ?_
                  exact ih _ _ _ _ _ _ _ (by rw [i_inc (by omega) (by omega)]; omega) (by rw [i_inc (by omega) (by omega)]; omega) (by simp only [chs, if_pos h40, if_pos h49, if_pos h57, if_pos h75, if_pos h101, if_neg h118, if_pos h123])
                · skip
                  refine x_iconst 1 127 dS_choose_126 rfl rfl ?_
                  refine x_goto 131 dS_choose_127 (by decide) ?_
                  refine x_istore 133 dS_choose_131 rfl (by decide) rfl ?_
                  refine x_iinc 136 dS_choose_133 rfl rfl (by decide) rfl ?_
                  refine x_goto 18 dS_choose_136 (by decide) ?_
                  exact ih _ _ _ _ _ _ _ (by rw [i_inc (by omega) (by omega)]; omega) (by rw [i_inc (by omega) (by omega)]; omega) (by simp only [chs, if_pos h40, if_pos h49, if_pos h57, if_pos h75, if_pos h101, if_neg h118, if_neg h123])
            · skip
              refine x_iload 106 dS_choose_104 rfl rfl ?_
              refine x_if_le 113 109 dS_choose_106 (by decide) rfl (fun h106 => ?_) (fun h106 => ?_)
              · skip
                refine x_iconst 0 114 dS_choose_113 rfl rfl ?_
                refine x_istore 116 dS_choose_114 rfl (by decide) rfl ?_
                refine x_iload 118 dS_choose_116 rfl rfl ?_
                refine x_if_eq 130 121 dS_choose_118 (by decide) rfl (fun h118 => ?_) (fun h118 => ?_)
                · skip
                  refine x_iconst 0 131 dS_choose_130 rfl rfl ?_
                  refine x_istore 133 dS_choose_131 rfl (by decide) rfl ?_
                  refine x_iinc 136 dS_choose_133 rfl rfl (by decide) rfl ?_
                  refine x_goto 18 dS_choose_136 (by decide) ?_
                  exact ih _ _ _ _ _ _ _ (by rw [i_inc (by omega) (by omega)]; omega) (by rw [i_inc (by omega) (by omega)]; omega) (by simp only [chs, if_pos h40, if_pos h49, if_pos h57, if_pos h75, if_neg h101, if_pos h106, if_pos h118])
                · skip
                  refine x_iload 123 dS_choose_121 rfl rfl ?_
                  refine x_if_ge 130 126 dS_choose_123 (by decide) rfl (fun h123 => ?_) (fun h123 => ?_)
                  · skip
                    refine x_iconst 0 131 dS_choose_130 rfl rfl ?_
                    refine x_istore 133 dS_choose_131 rfl (by decide) rfl ?_
                    refine x_iinc 136 dS_choose_133 rfl rfl (by decide) rfl ?_
                    refine x_goto 18 dS_choose_136 (by decide) ?_
                    exact ih _ _ _ _ _ _ _ (by rw [i_inc (by omega) (by omega)]; omega) (by rw [i_inc (by omega) (by omega)]; omega) (by simp only [chs, if_pos h40, if_pos h49, if_pos h57, if_pos h75, if_neg h101, if_pos h106, if_neg h118, if_pos h123])
                  · skip
                    refine x_iconst 1 127 dS_choose_126 rfl rfl ?_
                    refine x_goto 131 dS_choose_127 (by decide) ?_
                    refine x_istore 133 dS_choose_131 rfl (by decide) rfl ?_
                    refine x_iinc 136 dS_choose_133 rfl rfl (by decide) rfl ?_
                    refine x_goto 18 dS_choose_136 (by decide) ?_
                    exact ih _ _ _ _ _ _ _ (by rw [i_inc (by omega) (by omega)]; omega) (by rw [i_inc (by omega) (by omega)]; omega) (by simp only [chs, if_pos h40, if_pos h49, if_pos h57, if_pos h75, if_neg h101, if_pos h106, if_neg h118, if_neg h123])
              · skip
                refine x_iconst 1 110 dS_choose_109 rfl rfl ?_
                refine x_goto 114 dS_choose_110 (by decide) ?_
                refine x_istore 116 dS_choose_114 rfl (by decide) rfl ?_
                refine x_iload 118 dS_choose_116 rfl rfl ?_
                refine x_if_eq 130 121 dS_choose_118 (by decide) rfl (fun h118 => ?_) (fun h118 => ?_)
                · skip
                  refine x_iconst 0 131 dS_choose_130 rfl rfl ?_
                  refine x_istore 133 dS_choose_131 rfl (by decide) rfl ?_
                  refine x_iinc 136 dS_choose_133 rfl rfl (by decide) rfl ?_
                  refine x_goto 18 dS_choose_136 (by decide) ?_
                  exact ih _ _ _ _ _ _ _ (by rw [i_inc (by omega) (by omega)]; omega) (by rw [i_inc (by omega) (by omega)]; omega) (by simp only [chs, if_pos h40, if_pos h49, if_pos h57, if_pos h75, if_neg h101, if_neg h106, if_pos h118])
                · skip
                  refine x_iload 123 dS_choose_121 rfl rfl ?_
                  refine x_if_ge 130 126 dS_choose_123 (by decide) rfl (fun h123 => ?_) (fun h123 => ?_)
                  · skip
                    refine x_iconst 0 131 dS_choose_130 rfl rfl ?_
                    refine x_istore 133 dS_choose_131 rfl (by decide) rfl ?_
                    refine x_iinc 136 dS_choose_133 rfl rfl (by decide) rfl ?_
                    refine x_goto 18 dS_choose_136 (by decide) ?_
                    exact ih _ _ _ _ _ _ _ (by rw [i_inc (by omega) (by omega)]; omega) (by rw [i_inc (by omega) (by omega)]; omega) (by simp only [chs, if_pos h40, if_pos h49, if_pos h57, if_pos h75, if_neg h101, if_neg h106, if_neg h118, if_pos h123])
                  · skip
                    refine x_iconst 1 127 dS_choose_126 rfl rfl ?_
                    refine x_goto 131 dS_choose_127 (by decide) ?_
                    refine x_istore 133 dS_choose_131 rfl (by decide) rfl ?_
                    refine x_iinc 136 dS_choose_133 rfl rfl (by decide) rfl ?_
                    refine x_goto 18 dS_choose_136 (by decide) ?_
                    exact ih _ _ _ _ _ _ _ (by rw [i_inc (by omega) (by omega)]; omega) (by rw [i_inc (by omega) (by omega)]; omega) (by simp only [chs, if_pos h40, if_pos h49, if_pos h57, if_pos h75, if_neg h101, if_neg h106, if_neg h118, if_neg h123])
          · skip
            refine x_iload 80 dS_choose_78 rfl rfl ?_
            refine x_iload_n 81 dS_choose_80 rfl rfl ?_
            refine x_isub 82 dS_choose_81 rfl ?_
            refine x_mabs 85 kS_29 dS_choose_82 rfl (by decide) (Nat.le_of_ble_eq_true rfl) ?_
            refine x_iload 87 dS_choose_85 rfl rfl ?_
            refine x_iload_n 88 dS_choose_87 rfl rfl ?_
            refine x_isub 89 dS_choose_88 rfl ?_
            refine x_mabs 92 kS_29 dS_choose_89 rfl (by decide) (Nat.le_of_ble_eq_true rfl) ?_
            refine x_icmp_ge 99 95 dS_choose_92 (by decide) rfl (fun h92 => ?_) (fun h92 => ?_)
            · skip
              refine x_iload 101 dS_choose_99 rfl rfl ?_
              refine x_if_eq 113 104 dS_choose_101 (by decide) rfl (fun h101 => ?_) (fun h101 => ?_)
              · skip
                refine x_iconst 0 114 dS_choose_113 rfl rfl ?_
                refine x_istore 116 dS_choose_114 rfl (by decide) rfl ?_
                refine x_iload 118 dS_choose_116 rfl rfl ?_
                refine x_if_eq 130 121 dS_choose_118 (by decide) rfl (fun h118 => ?_) (fun h118 => ?_)
                · skip
                  refine x_iconst 0 131 dS_choose_130 rfl rfl ?_
                  refine x_istore 133 dS_choose_131 rfl (by decide) rfl ?_
                  refine x_iinc 136 dS_choose_133 rfl rfl (by decide) rfl ?_
                  refine x_goto 18 dS_choose_136 (by decide) ?_
                  exact ih _ _ _ _ _ _ _ (by rw [i_inc (by omega) (by omega)]; omega) (by rw [i_inc (by omega) (by omega)]; omega) (by simp only [chs, if_pos h40, if_pos h49, if_pos h57, if_neg h75, if_pos h92, if_pos h101, if_pos h118])
                · skip
                  refine x_iload 123 dS_choose_121 rfl rfl ?_
                  refine x_if_ge 130 126 dS_choose_123 (by decide) rfl (fun h123 => ?_) (fun h123 => ?_)
                  · skip
                    refine x_iconst 0 131 dS_choose_130 rfl rfl ?_
                    refine x_istore 133 dS_choose_131 rfl (by decide) rfl ?_
                    refine x_iinc 136 dS_choose_133 rfl rfl (by decide) rfl ?_
                    refine x_goto 18 dS_choose_136 (by decide) ?_
                    exact ih _ _ _ _ _ _ _ (by rw [i_inc (by omega) (by omega)]; omega) (by rw [i_inc (by omega) (by omega)]; omega) (by simp only [chs, if_pos h40, if_pos h49, if_pos h57, if_neg h75, if_pos h92, if_pos h101, if_neg h118, if_pos h123])
                  · skip
                    refine x_iconst 1 127 dS_choose_126 rfl rfl ?_
                    refine x_goto 131 dS_choose_127 (by decide) ?_
                    refine x_istore 133 dS_choose_131 rfl (by decide) rfl ?_
                    refine x_iinc 136 dS_choose_133 rfl rfl (by decide) rfl ?_
                    refine x_goto 18 dS_choose_136 (by decide) ?_
                    exact ih _ _ _ _ _ _ _ (by rw [i_inc (by omega) (by omega)]; omega) (by rw [i_inc (by omega) (by omega)]; omega) (by simp only [chs, if_pos h40, if_pos h49, if_pos h57, if_neg h75, if_pos h92, if_pos h101, if_neg h118, if_neg h123])
              · skip
                refine x_iload 106 dS_choose_104 rfl rfl ?_
                refine x_if_le 113 109 dS_choose_106 (by decide) rfl (fun h106 => ?_) (fun h106 => ?_)
                · skip
                  refine x_iconst 0 114 dS_choose_113 rfl rfl ?_
                  refine x_istore 116 dS_choose_114 rfl (by decide) rfl ?_
                  refine x_iload 118 dS_choose_116 rfl rfl ?_
                  refine x_if_eq 130 121 dS_choose_118 (by decide) rfl (fun h118 => ?_) (fun h118 => ?_)
                  · skip
                    refine x_iconst 0 131 dS_choose_130 rfl rfl ?_
                    refine x_istore 133 dS_choose_131 rfl (by decide) rfl ?_
                    refine x_iinc 136 dS_choose_133 rfl rfl (by decide) rfl ?_
                    refine x_goto 18 dS_choose_136 (by decide) ?_
                    exact ih _ _ _ _ _ _ _ (by rw [i_inc (by omega) (by omega)]; omega) (by rw [i_inc (by omega) (by omega)]; omega) (by simp only [chs, if_pos h40, if_pos h49, if_pos h57, if_neg h75, if_pos h92, if_neg h101, if_pos h106, if_pos h118])
                  · skip
                    refine x_iload 123 dS_choose_121 rfl rfl ?_
                    refine x_if_ge 130 126 dS_choose_123 (by decide) rfl (fun h123 => ?_) (fun h123 => ?_)
                    · skip
                      refine x_iconst 0 131 dS_choose_130 rfl rfl ?_
                      refine x_istore 133 dS_choose_131 rfl (by decide) rfl ?_
                      refine x_iinc 136 dS_choose_133 rfl rfl (by decide) rfl ?_
                      refine x_goto 18 dS_choose_136 (by decide) ?_
                      exact ih _ _ _ _ _ _ _ (by rw [i_inc (by omega) (by omega)]; omega) (by rw [i_inc (by omega) (by omega)]; omega) (by simp only [chs, if_pos h40, if_pos h49, if_pos h57, if_neg h75, if_pos h92, if_neg h101, if_pos h106, if_neg h118, if_pos h123])
                    · skip
                      refine x_iconst 1 127 dS_choose_126 rfl rfl ?_
                      refine x_goto 131 dS_choose_127 (by decide) ?_
                      refine x_istore 133 dS_choose_131 rfl (by decide) rfl ?_
                      refine x_iinc 136 dS_choose_133 rfl rfl (by decide) rfl ?_
                      refine x_goto 18 dS_choose_136 (by decide) ?_
                      exact ih _ _ _ _ _ _ _ (by rw [i_inc (by omega) (by omega)]; omega) (by rw [i_inc (by omega) (by omega)]; omega) (by simp only [chs, if_pos h40, if_pos h49, if_pos h57, if_neg h75, if_pos h92, if_neg h101, if_pos h106, if_neg h118, if_neg h123])
                · skip
                  refine x_iconst 1 110 dS_choose_109 rfl rfl ?_
                  refine x_goto 114 dS_choose_110 (by decide) ?_
                  refine x_istore 116 dS_choose_114 rfl (by decide) rfl ?_
                  refine x_iload 118 dS_choose_116 rfl rfl ?_
                  refine x_if_eq 130 121 dS_choose_118 (by decide) rfl (fun h118 => ?_) (fun h118 => ?_)
                  · skip
                    refine x_iconst 0 131 dS_choose_130 rfl rfl ?_
                    refine x_istore 133 dS_choose_131 rfl (by decide) rfl ?_
                    refine x_iinc 136 dS_choose_133 rfl rfl (by decide) rfl ?_
                    refine x_goto 18 dS_choose_136 (by decide) ?_
                    exact ih _ _ _ _ _ _ _ (by rw [i_inc (by omega) (by omega)]; omega) (by rw [i_inc (by omega) (by omega)]; omega) (by simp only [chs, if_pos h40, if_pos h49, if_pos h57, if_neg h75, if_pos h92, if_neg h101, if_neg h106, if_pos h118])
                  · skip
                    refine x_iload 123 dS_choose_121 rfl rfl ?_
                    refine x_if_ge 130 126 dS_choose_123 (by decide) rfl (fun h123 => ?_) (fun h123 => ?_)
                    · skip
                      refine x_iconst 0 131 dS_choose_130 rfl rfl ?_
                      refine x_istore 133 dS_choose_131 rfl (by decide) rfl ?_
                      refine x_iinc 136 dS_choose_133 rfl rfl (by decide) rfl ?_
                      refine x_goto 18 dS_choose_136 (by decide) ?_
                      exact ih _ _ _ _ _ _ _ (by rw [i_inc (by omega) (by omega)]; omega) (by rw [i_inc (by omega) (by omega)]; omega) (by simp only [chs, if_pos h40, if_pos h49, if_pos h57, if_neg h75, if_pos h92, if_neg h101, if_neg h106, if_neg h118, if_pos h123])
                    · skip
                      refine x_iconst 1 127 dS_choose_126 rfl rfl ?_
                      refine x_goto 131 dS_choose_127 (by decide) ?_
                      refine x_istore 133 dS_choose_131 rfl (by decide) rfl ?_
                      refine x_iinc 136 dS_choose_133 rfl rfl (by decide) rfl ?_
                      refine x_goto 18 dS_choose_136 (by decide) ?_
                      exact ih _ _ _ _ _ _ _ (by rw [i_inc (by omega) (by omega)]; omega) (by rw [i_inc (by omega) (by omega)]; omega) (by simp only [chs, if_pos h40, if_pos h49, if_pos h57, if_neg h75, if_pos h92, if_neg h101, if_neg h106, if_neg h118, if_neg h123])
            · skip
              refine x_iload 97 dS_choose_95 rfl rfl ?_
              refine x_istore 99 dS_choose_97 rfl (by decide) rfl ?_
              refine x_iload 101 dS_choose_99 rfl rfl ?_
              refine x_if_eq 113 104 dS_choose_101 (by decide) rfl (fun h101 => ?_) (fun h101 => ?_)
              · skip
                refine x_iconst 0 114 dS_choose_113 rfl rfl ?_
                refine x_istore 116 dS_choose_114 rfl (by decide) rfl ?_
                refine x_iload 118 dS_choose_116 rfl rfl ?_
                refine x_if_eq 130 121 dS_choose_118 (by decide) rfl (fun h118 => ?_) (fun h118 => ?_)
                · skip
                  refine x_iconst 0 131 dS_choose_130 rfl rfl ?_
                  refine x_istore 133 dS_choose_131 rfl (by decide) rfl ?_
                  refine x_iinc 136 dS_choose_133 rfl rfl (by decide) rfl ?_
                  refine x_goto 18 dS_choose_136 (by decide) ?_
                  exact ih _ _ _ _ _ _ _ (by rw [i_inc (by omega) (by omega)]; omega) (by rw [i_inc (by omega) (by omega)]; omega) (by simp only [chs, if_pos h40, if_pos h49, if_pos h57, if_neg h75, if_neg h92, if_pos h101, if_pos h118])
                · skip
                  refine x_iload 123 dS_choose_121 rfl rfl ?_
                  refine x_if_ge 130 126 dS_choose_123 (by decide) rfl (fun h123 => ?_) (fun h123 => ?_)
                  · skip
                    refine x_iconst 0 131 dS_choose_130 rfl rfl ?_
                    refine x_istore 133 dS_choose_131 rfl (by decide) rfl ?_
                    refine x_iinc 136 dS_choose_133 rfl rfl (by decide) rfl ?_
                    refine x_goto 18 dS_choose_136 (by decide) ?_
                    exact ih _ _ _ _ _ _ _ (by rw [i_inc (by omega) (by omega)]; omega) (by rw [i_inc (by omega) (by omega)]; omega) (by simp only [chs, if_pos h40, if_pos h49, if_pos h57, if_neg h75, if_neg h92, if_pos h101, if_neg h118, if_pos h123])
                  · skip
                    refine x_iconst 1 127 dS_choose_126 rfl rfl ?_
                    refine x_goto 131 dS_choose_127 (by decide) ?_
                    refine x_istore 133 dS_choose_131 rfl (by decide) rfl ?_
                    refine x_iinc 136 dS_choose_133 rfl rfl (by decide) rfl ?_
                    refine x_goto 18 dS_choose_136 (by decide) ?_
                    exact ih _ _ _ _ _ _ _ (by rw [i_inc (by omega) (by omega)]; omega) (by rw [i_inc (by omega) (by omega)]; omega) (by simp only [chs, if_pos h40, if_pos h49, if_pos h57, if_neg h75, if_neg h92, if_pos h101, if_neg h118, if_neg h123])
              · skip
                refine x_iload 106 dS_choose_104 rfl rfl ?_
                refine x_if_le 113 109 dS_choose_106 (by decide) rfl (fun h106 => ?_) (fun h106 => ?_)
                · skip
                  refine x_iconst 0 114 dS_choose_113 rfl rfl ?_
                  refine x_istore 116 dS_choose_114 rfl (by decide) rfl ?_
                  refine x_iload 118 dS_choose_116 rfl rfl ?_
                  refine x_if_eq 130 121 dS_choose_118 (by decide) rfl (fun h118 => ?_) (fun h118 => ?_)
                  · skip
                    refine x_iconst 0 131 dS_choose_130 rfl rfl ?_
                    refine x_istore 133 dS_choose_131 rfl (by decide) rfl ?_
                    refine x_iinc 136 dS_choose_133 rfl rfl (by decide) rfl ?_
                    refine x_goto 18 dS_choose_136 (by decide) ?_
                    exact ih _ _ _ _ _ _ _ (by rw [i_inc (by omega) (by omega)]; omega) (by rw [i_inc (by omega) (by omega)]; omega) (by simp only [chs, if_pos h40, if_pos h49, if_pos h57, if_neg h75, if_neg h92, if_neg h101, if_pos h106, if_pos h118])
                  · skip
                    refine x_iload 123 dS_choose_121 rfl rfl ?_
                    refine x_if_ge 130 126 dS_choose_123 (by decide) rfl (fun h123 => ?_) (fun h123 => ?_)
                    · skip
                      refine x_iconst 0 131 dS_choose_130 rfl rfl ?_
                      refine x_istore 133 dS_choose_131 rfl (by decide) rfl ?_
                      refine x_iinc 136 dS_choose_133 rfl rfl (by decide) rfl ?_
                      refine x_goto 18 dS_choose_136 (by decide) ?_
                      exact ih _ _ _ _ _ _ _ (by rw [i_inc (by omega) (by omega)]; omega) (by rw [i_inc (by omega) (by omega)]; omega) (by simp only [chs, if_pos h40, if_pos h49, if_pos h57, if_neg h75, if_neg h92, if_neg h101, if_pos h106, if_neg h118, if_pos h123])
                    · skip
                      refine x_iconst 1 127 dS_choose_126 rfl rfl ?_
                      refine x_goto 131 dS_choose_127 (by decide) ?_
                      refine x_istore 133 dS_choose_131 rfl (by decide) rfl ?_
                      refine x_iinc 136 dS_choose_133 rfl rfl (by decide) rfl ?_
                      refine x_goto 18 dS_choose_136 (by decide) ?_
                      exact ih _ _ _ _ _ _ _ (by rw [i_inc (by omega) (by omega)]; omega) (by rw [i_inc (by omega) (by omega)]; omega) (by simp only [chs, if_pos h40, if_pos h49, if_pos h57, if_neg h75, if_neg h92, if_neg h101, if_pos h106, if_neg h118, if_neg h123])
                · skip
                  refine x_iconst 1 110 dS_choose_109 rfl rfl ?_
                  refine x_goto 114 dS_choose_110 (by decide) ?_
                  refine x_istore 116 dS_choose_114 rfl (by decide) rfl ?_
                  refine x_iload 118 dS_choose_116 rfl rfl ?_
                  refine x_if_eq 130 121 dS_choose_118 (by decide) rfl (fun h118 => ?_) (fun h118 => ?_)
                  · skip
                    refine x_iconst 0 131 dS_choose_130 rfl rfl ?_
                    refine x_istore 133 dS_choose_131 rfl (by decide) rfl ?_
                    refine x_iinc 136 dS_choose_133 rfl rfl (by decide) rfl ?_
                    refine x_goto 18 dS_choose_136 (by decide) ?_
                    exact ih _ _ _ _ _ _ _ (by rw [i_inc (by omega) (by omega)]; omega) (by rw [i_inc (by omega) (by omega)]; omega) (by simp only [chs, if_pos h40, if_pos h49, if_pos h57, if_neg h75, if_neg h92, if_neg h101, if_neg h106, if_pos h118])
                  · skip
                    refine x_iload 123 dS_choose_121 rfl rfl ?_
                    refine x_if_ge 130 126 dS_choose_123 (by decide) rfl (fun h123 => ?_) (fun h123 => ?_)
                    · skip
                      refine x_iconst 0 131 dS_choose_130 rfl rfl ?_
                      refine x_istore 133 dS_choose_131 rfl (by decide) rfl ?_
                      refine x_iinc 136 dS_choose_133 rfl rfl (by decide) rfl ?_
                      refine x_goto 18 dS_choose_136 (by decide) ?_
                      exact ih _ _ _ _ _ _ _ (by rw [i_inc (by omega) (by omega)]; omega) (by rw [i_inc (by omega) (by omega)]; omega) (by simp only [chs, if_pos h40, if_pos h49, if_pos h57, if_neg h75, if_neg h92, if_neg h101, if_neg h106, if_neg h118, if_pos h123])
                    · skip
                      refine x_iconst 1 127 dS_choose_126 rfl rfl ?_
                      refine x_goto 131 dS_choose_127 (by decide) ?_
                      refine x_istore 133 dS_choose_131 rfl (by decide) rfl ?_
                      refine x_iinc 136 dS_choose_133 rfl rfl (by decide) rfl ?_
                      refine x_goto 18 dS_choose_136 (by decide) ?_
                      exact ih _ _ _ _ _ _ _ (by rw [i_inc (by omega) (by omega)]; omega) (by rw [i_inc (by omega) (by omega)]; omega) (by simp only [chs, if_pos h40, if_pos h49, if_pos h57, if_neg h75, if_neg h92, if_neg h101, if_neg h106, if_neg h118, if_neg h123])
      · skip
        refine x_goto 133 dS_choose_52 (by decide) ?_
        refine x_iinc 136 dS_choose_133 rfl rfl (by decide) rfl ?_
        refine x_goto 18 dS_choose_136 (by decide) ?_
        exact ih _ _ _ _ _ _ _ (by rw [i_inc (by omega) (by omega)]; omega) (by rw [i_inc (by omega) (by omega)]; omega) (by simp only [chs, if_pos h40, if_neg h49])
theorem cS_choose (v g rf : Int32) : x_C l G mS_choose 2 0 0 [xR (some (11, 0)), xI v, xI g, xI rf] (hp N I J P V A B) [] (x_is (some (xI (chs I v g rf 63 1 0 0 0 1 1))) (hp N I J P V A B)) := by
  refine x_C.at [some (xR (some (11, 0))), some (xI v), some (xI g), some (xI rf), none, none, none, none, none, none, none] rfl (Nat.le_of_ble_eq_true rfl) rfl ?_
  refine x_iconst 0 1 dS_choose_0 rfl rfl ?_
  refine x_istore 3 dS_choose_1 rfl (by decide) rfl ?_
  refine x_iconst 0 4 dS_choose_3 rfl rfl ?_
  refine x_istore 6 dS_choose_4 rfl (by decide) rfl ?_
  refine x_iconst 0 7 dS_choose_6 rfl rfl ?_
  refine x_istore 9 dS_choose_7 rfl (by decide) rfl ?_
  refine x_iconst 1 10 dS_choose_9 rfl rfl ?_
  refine x_istore 12 dS_choose_10 rfl (by decide) rfl ?_
  refine x_iconst 1 13 dS_choose_12 rfl rfl ?_
  refine x_istore 15 dS_choose_13 rfl (by decide) rfl ?_
  refine x_iconst 1 16 dS_choose_15 rfl rfl ?_
  refine x_istore 18 dS_choose_16 rfl (by decide) rfl ?_
  exact lp_choose v g rf _ 63 1 0 0 0 1 1 _ (by decide) (by decide) rfl
theorem lp_fcp {i : Nat} (hi : i < 2) (T : Int32) : ∀ (n : Nat) (p mv lg : Int32) (x y : Option xV), p.toInt + n = 64 → 1 ≤ p.toInt → fcp I (I 11 i) n p mv lg = T → x_X l G mS_findCallPrice 3 0 0 [] (x_is (some (xI T)) (hp N I J P V A B)) 12 [some (xR (some (11, 0))), some (xR (some (3, i))), some (xI mv), some (xI lg), some (xI p), x, y] [] (hp N I J P V A B) := by
  intro n
  induction n with
  | zero =>
    intro p mv lg x y hp1 hp2 hT
    subst hT
    refine x_iload 14 dS_findCallPrice_12 rfl rfl ?_
    refine x_bipush (63) 16 dS_findCallPrice_14 rfl rfl ?_
    refine x_icmp_gt 68 19 dS_findCallPrice_16 (by decide) rfl (fun h16 => ?_) (fun h16 => absurd (show (63 : Int32) < p from by rw [i_lt, c63]; omega) h16)
    refine x_iload_n 69 dS_findCallPrice_68 rfl rfl ?_
    refine x_if_ne 76 72 dS_findCallPrice_69 (by decide) rfl (fun h69 => ?_) (fun h69 => ?_)
    · skip
      refine x_aload_n 77 dS_findCallPrice_76 rfl rfl ?_
      refine x_iload_n 78 dS_findCallPrice_77 rfl rfl ?_
      refine x_iload_n 79 dS_findCallPrice_78 rfl rfl ?_
      refine x_aload_n 80 dS_findCallPrice_79 rfl rfl ?_
      refine x_get _ 83 fS_34 dS_findCallPrice_80 rfl (h_B (by assumption)) rfl ?_
      refine x_fVv 86 (cS_choose _ _ _) kS_40 oS_choose rfl rfl dS_findCallPrice_83 rfl rfl (by decide) (Nat.le_of_ble_eq_true rfl) ?_
      exact x_iret dS_findCallPrice_86 rfl rfl ⟨by simp only [fcp, h16, h69, if_true, if_false], rfl⟩
    · skip
      refine x_iconst 0 73 dS_findCallPrice_72 rfl rfl ?_
      refine x_goto 86 dS_findCallPrice_73 (by decide) ?_
      exact x_iret dS_findCallPrice_86 rfl rfl ⟨by simp only [fcp, h16, h69, if_true, if_false], rfl⟩
  | succ n ih =>
    intro p mv lg x y hp1 hp2 hT
    subst hT
    have hin : vp_in p 65 := vp_of (by omega) (by omega)
    have hlt : ¬ (63 : Int32) < p := by rw [i_lt, c63]; omega
    refine x_iload 14 dS_findCallPrice_12 rfl rfl ?_
    refine x_bipush (63) 16 dS_findCallPrice_14 rfl rfl ?_
    refine x_icmp_gt 68 19 dS_findCallPrice_16 (by decide) rfl (fun h16 => absurd h16 hlt) (fun h16 => ?_)
    refine x_aload_n 20 dS_findCallPrice_19 rfl rfl ?_
    refine x_iload 22 dS_findCallPrice_20 rfl rfl ?_
    refine x_fVv 25 (cS_volumeAt hin) kS_22 oS_volumeAt rfl rfl dS_findCallPrice_22 rfl rfl (by decide) (Nat.le_of_ble_eq_true rfl) ?_
    refine x_istore 27 dS_findCallPrice_25 rfl (by decide) rfl ?_
    refine x_aload_n 28 dS_findCallPrice_27 rfl rfl ?_
    refine x_iload 30 dS_findCallPrice_28 rfl rfl ?_
    refine x_fVv 33 (cS_surplusAt hin) kS_26 oS_surplusAt rfl rfl dS_findCallPrice_30 rfl rfl (by decide) (Nat.le_of_ble_eq_true rfl) ?_
    refine x_mabs 36 kS_29 dS_findCallPrice_33 rfl (by decide) (Nat.le_of_ble_eq_true rfl) ?_
    refine x_istore 38 dS_findCallPrice_36 rfl (by decide) rfl ?_
    refine x_iload 40 dS_findCallPrice_38 rfl rfl ?_
    refine x_iload_n 41 dS_findCallPrice_40 rfl rfl ?_
    refine x_icmp_gt 56 44 dS_findCallPrice_41 (by decide) rfl (fun h41 => ?_) (fun h41 => ?_)
    · skip
      refine x_iload 58 dS_findCallPrice_56 rfl rfl ?_
      refine x_istore_n 59 dS_findCallPrice_58 rfl (by decide) rfl ?_
      refine x_iload 61 dS_findCallPrice_59 rfl rfl ?_
      refine x_istore_n 62 dS_findCallPrice_61 rfl (by decide) rfl ?_
      refine x_iinc 65 dS_findCallPrice_62 rfl rfl (by decide) rfl ?_
      refine x_goto 12 dS_findCallPrice_65 (by decide) ?_
      exact ih _ _ _ _ _ (by rw [i_inc (by omega) (by omega)]; omega) (by rw [i_inc (by omega) (by omega)]; omega) (by simp only [fcp, if_pos h41])
    · skip
      refine x_iload 46 dS_findCallPrice_44 rfl rfl ?_
      refine x_iload_n 47 dS_findCallPrice_46 rfl rfl ?_
      refine x_icmp_ne 62 50 dS_findCallPrice_47 (by decide) rfl (fun h47 => ?_) (fun h47 => ?_)
      · skip
        refine x_iinc 65 dS_findCallPrice_62 rfl rfl (by decide) rfl ?_
        refine x_goto 12 dS_findCallPrice_65 (by decide) ?_
        exact ih _ _ _ _ _ (by rw [i_inc (by omega) (by omega)]; omega) (by rw [i_inc (by omega) (by omega)]; omega) (by simp only [fcp, if_neg h41, if_neg h47])
      · skip
        refine x_iload 52 dS_findCallPrice_50 rfl rfl ?_
        refine x_iload_n 53 dS_findCallPrice_52 rfl rfl ?_
        refine x_icmp_ge 62 56 dS_findCallPrice_53 (by decide) rfl (fun h53 => ?_) (fun h53 => ?_)
        · skip
          refine x_iinc 65 dS_findCallPrice_62 rfl rfl (by decide) rfl ?_
          refine x_goto 12 dS_findCallPrice_65 (by decide) ?_
          exact ih _ _ _ _ _ (by rw [i_inc (by omega) (by omega)]; omega) (by rw [i_inc (by omega) (by omega)]; omega) (by simp only [fcp, if_neg h41, if_pos h47, if_pos h53])
        · skip
          refine x_iload 58 dS_findCallPrice_56 rfl rfl ?_
          refine x_istore_n 59 dS_findCallPrice_58 rfl (by decide) rfl ?_
          refine x_iload 61 dS_findCallPrice_59 rfl rfl ?_
          refine x_istore_n 62 dS_findCallPrice_61 rfl (by decide) rfl ?_
          refine x_iinc 65 dS_findCallPrice_62 rfl rfl (by decide) rfl ?_
          refine x_goto 12 dS_findCallPrice_65 (by decide) ?_
          exact ih _ _ _ _ _ (by rw [i_inc (by omega) (by omega)]; omega) (by rw [i_inc (by omega) (by omega)]; omega) (by simp only [fcp, if_neg h41, if_pos h47, if_neg h53])
theorem cS_findCallPrice {i : Nat} (hi : i < 2) {cb cs : List Nat} (hcb : Ch P (P 1 (2 * i)) cb) (hlb : ∀ o ∈ cb, o < N) (hcs : Ch P (P 1 (2 * i + 1)) cs) (hls : ∀ o ∈ cs, o < N) (h5b : ∀ o ∈ cb, vp_in (I 5 o) 65) (h5s : ∀ o ∈ cs, vp_in (I 5 o) 65) : x_C l G mS_findCallPrice 3 0 0 [xR (some (11, 0)), xR (some (3, i))] (hp N I J P V A B) [] (x_is (some (xI (fcp (wgh I cb cs) (wgh I cb cs 11 i) 63 1 0 0))) (hp N (wgh I cb cs) J P V A B)) := by
  refine x_C.at [some (xR (some (11, 0))), some (xR (some (3, i))), none, none, none, none, none] rfl (Nat.le_of_ble_eq_true rfl) rfl ?_
  refine x_aload_n 1 dS_findCallPrice_0 rfl rfl ?_
  refine x_aload_n 2 dS_findCallPrice_1 rfl rfl ?_
  refine x_fVn 5 (cS_weigh hi hcb hlb hcs hls h5b h5s) kS_18 oS_weigh rfl rfl dS_findCallPrice_2 rfl rfl (by decide) (Nat.le_of_ble_eq_true rfl) ?_
  refine x_iconst 0 6 dS_findCallPrice_5 rfl rfl ?_
  refine x_istore_n 7 dS_findCallPrice_6 rfl (by decide) rfl ?_
  refine x_iconst 0 8 dS_findCallPrice_7 rfl rfl ?_
  refine x_istore_n 9 dS_findCallPrice_8 rfl (by decide) rfl ?_
  refine x_iconst 1 10 dS_findCallPrice_9 rfl rfl ?_
  refine x_istore 12 dS_findCallPrice_10 rfl (by decide) rfl ?_
  exact lp_fcp hi _ 63 1 0 0 _ _ (by decide) (by decide) rfl
def fnd (I : Nat → Nat → Int32) (x : Int32) : Option xQ := if x < 0 then none else if I 12 0 ≤ x then none else some (0, x.toNatClampNeg)
def FD (N : Nat) (I : Nat → Nat → Int32) (P : Nat → Nat → Option xQ) : Prop := ∀ x : Int32, ¬ x < 0 → ¬ I 12 0 ≤ x → vp_in x 120 ∧ P 2 x.toNatClampNeg = some (0, x.toNatClampNeg) ∧ x.toNatClampNeg < N
theorem fnd_cs (I : Nat → Nat → Int32) (x : Int32) : fnd I x = none ∨ (¬ x < 0 ∧ ¬ I 12 0 ≤ x ∧ fnd I x = some (0, x.toNatClampNeg)) := by
  unfold fnd
  split
  · exact Or.inl rfl
  · split
    · exact Or.inl rfl
    · exact Or.inr ⟨by assumption, by assumption, rfl⟩
theorem cC_find (hf : FD N I P) (x : Int32) : x_C l G mC_find 0 0 0 [xR (some (5, 0)), xI x] (hp N I J P V A B) [] (x_is (some (xR (fnd I x))) (hp N I J P V A B)) := by
  refine x_C.at [some (xR (some (5, 0))), some (xI x)] rfl (Nat.le_of_ble_eq_true rfl) rfl ?_
  refine x_iload_n 1 dC_find_0 rfl rfl ?_
  refine x_if_lt 21 4 dC_find_1 (by decide) rfl (fun h1 => ?_) (fun h1 => ?_)
  · skip
    refine x_null 22 dC_find_21 rfl ?_
    exact x_aret dC_find_22 rfl (Or.inl ⟨_, rfl⟩) ⟨by simp [fnd, h1], rfl⟩
  · skip
    refine x_iload_n 5 dC_find_4 rfl rfl ?_
    refine x_aload_n 6 dC_find_5 rfl rfl ?_
    refine x_get _ 9 fC_41 dC_find_6 rfl rfl rfl ?_
    refine x_icmp_ge 21 12 dC_find_9 (by decide) rfl (fun h9 => ?_) (fun h9 => ?_)
    · skip
      refine x_null 22 dC_find_21 rfl ?_
      exact x_aret dC_find_22 rfl (Or.inl ⟨_, rfl⟩) ⟨by simp [fnd, h1, h9], rfl⟩
    · skip
      refine x_aload_n 13 dC_find_12 rfl rfl ?_
      refine x_get _ 16 fC_23 dC_find_13 rfl rfl rfl ?_
      refine x_iload_n 17 dC_find_16 rfl rfl ?_
      refine x_aald 18 rfl dC_find_17 rfl rfl (hf x h1 h9).1 ?_
      refine x_goto 22 dC_find_18 (by decide) ?_
      exact x_aret dC_find_22 rfl (Or.inl ⟨_, rfl⟩) ⟨by simp [fnd, h1, h9, (hf x h1 h9).2.1], rfl⟩
theorem cC_find_n (hf : FD N I P) {x : Int32} (hq : fnd I x = none) : x_C l G mC_find 0 0 0 [xR (some (5, 0)), xI x] (hp N I J P V A B) [] (x_is (some (xR none)) (hp N I J P V A B)) := by
  have := cC_find (l := l) (G := G) (J := J) (V := V) (A := A) (B := B) hf x
  rw [hq] at this
  exact this
theorem cC_find_s (hf : FD N I P) {x : Int32} {a : xQ} (hq : fnd I x = some a) : x_C l G mC_find 0 0 0 [xR (some (5, 0)), xI x] (hp N I J P V A B) [] (x_is (some (xR (some a))) (hp N I J P V A B)) := by
  have := cC_find (l := l) (G := G) (J := J) (V := V) (A := A) (B := B) hf x
  rw [hq] at this
  exact this
def fndR (I : Nat → Nat → Int32) (m x : Int32) : Option xQ := if x < 0 then none else if I 12 0 ≤ x then none else if I 1 x.toNatClampNeg = m then (if I 8 x.toNatClampNeg = 0 then some (0, x.toNatClampNeg) else none) else none
theorem fndR_n {I : Nat → Nat → Int32} {m x : Int32} (h : fnd I x = none) : fndR I m x = none := by
  unfold fnd at h
  unfold fndR
  split
  · rfl
  · rename_i h1
    rw [if_neg h1] at h
    split
    · rfl
    · rename_i h2
      rw [if_neg h2] at h
      cases h
theorem fndR_cs (I : Nat → Nat → Int32) (m x : Int32) : fndR I m x = none ∨ (¬ x < 0 ∧ ¬ I 12 0 ≤ x ∧ I 1 x.toNatClampNeg = m ∧ I 8 x.toNatClampNeg = 0 ∧ fndR I m x = some (0, x.toNatClampNeg)) := by
  unfold fndR
  split
  · exact Or.inl rfl
  · split
    · exact Or.inl rfl
    · split
      · split
        · exact Or.inr ⟨by assumption, by assumption, by assumption, by assumption, rfl⟩
        · exact Or.inl rfl
      · exact Or.inl rfl
theorem cC_findResting (hf : FD N I P) (m x : Int32) : x_C l G mC_findResting 1 0 0 [xR (some (5, 0)), xI m, xI x] (hp N I J P V A B) [] (x_is (some (xR (fndR I m x))) (hp N I J P V A B)) := by
  refine x_C.at [some (xR (some (5, 0))), some (xI m), some (xI x), none] rfl (Nat.le_of_ble_eq_true rfl) rfl ?_
  rcases fnd_cs I x with hq | ⟨h1, h2, hq⟩
  · skip
    refine x_aload_n 1 dC_findResting_0 rfl rfl ?_
    refine x_iload_n 2 dC_findResting_1 rfl rfl ?_
    refine x_fVv 5 (cC_find_n hf hq) kC_153 oC_find rfl rfl dC_findResting_2 rfl rfl (by decide) (Nat.le_of_ble_eq_true rfl) ?_
    refine x_astore_n 6 dC_findResting_5 rfl (by decide) rfl ?_
    refine x_aload_n 7 dC_findResting_6 rfl rfl ?_
    refine x_ifnull_n 29 10 dC_findResting_7 (by decide) rfl ?_
    refine x_null 30 dC_findResting_29 rfl ?_
    exact x_aret dC_findResting_30 rfl (Or.inl ⟨_, rfl⟩) ⟨by rw [fndR_n hq], rfl⟩
  · have hk := (hf x h1 h2).2.2
    refine x_aload_n 1 dC_findResting_0 rfl rfl ?_
    refine x_iload_n 2 dC_findResting_1 rfl rfl ?_
    refine x_fVv 5 (cC_find_s hf hq) kC_153 oC_find rfl rfl dC_findResting_2 rfl rfl (by decide) (Nat.le_of_ble_eq_true rfl) ?_
    refine x_astore_n 6 dC_findResting_5 rfl (by decide) rfl ?_
    refine x_aload_n 7 dC_findResting_6 rfl rfl ?_
    refine x_ifnull_s 29 10 dC_findResting_7 (by decide) rfl ?_
    refine x_aload_n 11 dC_findResting_10 rfl rfl ?_
    refine x_get _ 14 fC_185 dC_findResting_11 rfl (h_O (by assumption)) rfl ?_
    refine x_iload_n 15 dC_findResting_14 rfl rfl ?_
    refine x_icmp_ne 29 18 dC_findResting_15 (by decide) rfl (fun h15 => ?_) (fun h15 => ?_)
    · skip
      refine x_null 30 dC_findResting_29 rfl ?_
      exact x_aret dC_findResting_30 rfl (Or.inl ⟨_, rfl⟩) ⟨by simp [fndR, h1, h2, h15], rfl⟩
    · skip
      refine x_aload_n 19 dC_findResting_18 rfl rfl ?_
      refine x_get _ 22 fC_157 dC_findResting_19 rfl (h_O (by assumption)) rfl ?_
      refine x_if_ne 29 25 dC_findResting_22 (by decide) rfl (fun h22 => ?_) (fun h22 => ?_)
      · skip
        refine x_null 30 dC_findResting_29 rfl ?_
        exact x_aret dC_findResting_30 rfl (Or.inl ⟨_, rfl⟩) ⟨by simp [fndR, h1, h2, h15, h22], rfl⟩
      · skip
        refine x_aload_n 26 dC_findResting_25 rfl rfl ?_
        refine x_goto 30 dC_findResting_26 (by decide) ?_
        exact x_aret dC_findResting_30 rfl (Or.inl ⟨_, rfl⟩) ⟨by simp [fndR, h1, h2, h15, h22], rfl⟩
theorem cC_findResting_n (hf : FD N I P) {m x : Int32} (hq : fndR I m x = none) : x_C l G mC_findResting 1 0 0 [xR (some (5, 0)), xI m, xI x] (hp N I J P V A B) [] (x_is (some (xR (none))) (hp N I J P V A B)) := by
  have := cC_findResting (l := l) (G := G) (J := J) (V := V) (A := A) (B := B) hf m x
  rw [hq] at this
  exact this
theorem cC_findResting_s (hf : FD N I P) {m x : Int32} {a : xQ} (hq : fndR I m x = some a) : x_C l G mC_findResting 1 0 0 [xR (some (5, 0)), xI m, xI x] (hp N I J P V A B) [] (x_is (some (xR (some a))) (hp N I J P V A B)) := by
  have := cC_findResting (l := l) (G := G) (J := J) (V := V) (A := A) (B := B) hf m x
  rw [hq] at this
  exact this
def rk1 (I V : Nat → Nat → Int32) (ls : Nat → List Nat) (m i s q e : Int32) : Int64 := (if e.toNatClampNeg = 0 then (3 : Int32) else 5).toInt64 * (i_max (i_abs (if e = i then (if s = 0 then V m.toNatClampNeg e.toNatClampNeg + lfo I m 0 (ls (2 * e.toNatClampNeg)) + q else V m.toNatClampNeg e.toNatClampNeg + lfo I m 0 (ls (2 * e.toNatClampNeg))) else V m.toNatClampNeg e.toNatClampNeg + lfo I m 0 (ls (2 * e.toNatClampNeg)))) (i_abs (if e = i then (if s = 1 then V m.toNatClampNeg e.toNatClampNeg - lfo I m 0 (ls (2 * e.toNatClampNeg + 1)) - q else V m.toNatClampNeg e.toNatClampNeg - lfo I m 0 (ls (2 * e.toNatClampNeg + 1))) else V m.toNatClampNeg e.toNatClampNeg - lfo I m 0 (ls (2 * e.toNatClampNeg + 1))))).toInt64
def rkF (I V : Nat → Nat → Int32) (ls : Nat → List Nat) (m i s q : Int32) : Nat → Int32 → Int64 → Int64
  | 0, _, sum => sum
  | n + 1, e, sum => rkF I V ls m i s q n (e + Int32.ofInt 1) (sum + rk1 I V ls m i s q e)
def rsk (I V : Nat → Nat → Int32) (ls : Nat → List Nat) (m i s q : Int32) : Int64 := rkF I V ls m i s q 2 0 0
theorem c2 : (2 : Int32).toInt = 2 := by decide
theorem lp_risk {m : Int32} (hm : vp_in m 5) {ls : Nat → List Nat} (hc : ∀ j < 4, Ch P (P 1 j) (ls j)) (hl : ∀ j < 4, ∀ o ∈ ls j, o < N) (i s q : Int32) (T : Int64) : ∀ (n : Nat) (e : Int32) (sum : Int64) (x y z : Option xV), e.toInt + n = 2 → 0 ≤ e.toInt → rkF I V ls m i s q n e sum = T → x_X l G mC_riskWith 1 0 0 [] (x_is (some (xJ T)) (hp N I J P V A B)) 6 [some (xR (some (5, 0))), some (xI m), some (xI i), some (xI s), some (xI q), some (xJ sum), none, some (xI e), x, y, z] [] (hp N I J P V A B) := by
  intro n
  induction n with
  | zero =>
    intro e sum x y z hp1 hp2 hT
    subst hT
    refine x_iload 8 dC_riskWith_6 rfl rfl ?_
    refine x_iconst 2 9 dC_riskWith_8 rfl rfl ?_
    refine x_icmp_ge 132 12 dC_riskWith_9 (by decide) rfl (fun h9 => ?_) (fun h9 => absurd (show (2 : Int32) ≤ e from by rw [i_le, c2]; omega) h9)
    refine x_lload 134 dC_riskWith_132 rfl rfl ?_
    exact x_lret dC_riskWith_134 rfl ⟨rfl, rfl⟩
  | succ n ih =>
    intro e sum x y z hp1 hp2 hT
    subst hT
    have hin : vp_in e 2 := vp_of (by omega) (by omega)
    have he2 := vp_lt hin
    have hm5 := vp_lt hm
    have hlt : ¬ (2 : Int32) ≤ e := by rw [i_le, c2]; omega
    refine x_iload 8 dC_riskWith_6 rfl rfl ?_
    refine x_iconst 2 9 dC_riskWith_8 rfl rfl ?_
    refine x_icmp_ge 132 12 dC_riskWith_9 (by decide) rfl (fun h9 => absurd h9 hlt) (fun h9 => ?_)
    refine x_aload_n 13 dC_riskWith_12 rfl rfl ?_
    refine x_get _ 16 fC_11 dC_riskWith_13 rfl rfl rfl ?_
    refine x_iload_n 17 dC_riskWith_16 rfl rfl ?_
    refine x_aald 18 rfl dC_riskWith_17 rfl rfl (by assumption) ?_
    refine x_get _ 21 fC_175 dC_riskWith_18 rfl (h_A (by assumption)) rfl ?_
    refine x_iload 23 dC_riskWith_21 rfl rfl ?_
    refine x_iald 24 dC_riskWith_23 rfl (h_P (by assumption)) (by assumption) ?_
    refine x_istore 26 dC_riskWith_24 rfl (by decide) rfl ?_
    refine x_iload 28 dC_riskWith_26 rfl rfl ?_
    refine x_aload_n 29 dC_riskWith_28 rfl rfl ?_
    refine x_get _ 32 fC_17 dC_riskWith_29 rfl rfl rfl ?_
    refine x_iload 34 dC_riskWith_32 rfl rfl ?_
    refine x_aald 35 rfl dC_riskWith_34 rfl rfl (by assumption) ?_
    refine x_get _ 38 fC_188 dC_riskWith_35 rfl (h_B (by assumption)) rfl ?_
    refine x_iload_n 39 dC_riskWith_38 rfl rfl ?_
    refine x_fVv 42 (cD_leftOf (by omega) (hc _ (by omega)) (hl _ (by omega)) _) kC_192 oD_leftOf rfl (h_D (by omega)) dC_riskWith_39 rfl rfl (by decide) (Nat.le_of_ble_eq_true rfl) ?_
    refine x_iadd 43 dC_riskWith_42 rfl ?_
    refine x_istore 45 dC_riskWith_43 rfl (by decide) rfl ?_
    refine x_iload 47 dC_riskWith_45 rfl rfl ?_
    refine x_aload_n 48 dC_riskWith_47 rfl rfl ?_
    refine x_get _ 51 fC_17 dC_riskWith_48 rfl rfl rfl ?_
    refine x_iload 53 dC_riskWith_51 rfl rfl ?_
    refine x_aald 54 rfl dC_riskWith_53 rfl rfl (by assumption) ?_
    refine x_get _ 57 fC_195 dC_riskWith_54 rfl (h_B (by assumption)) rfl ?_
    refine x_iload_n 58 dC_riskWith_57 rfl rfl ?_
    refine x_fVv 61 (cD_leftOf (by omega) (hc _ (by omega)) (hl _ (by omega)) _) kC_192 oD_leftOf rfl (h_D (by omega)) dC_riskWith_58 rfl rfl (by decide) (Nat.le_of_ble_eq_true rfl) ?_
    refine x_isub 62 dC_riskWith_61 rfl ?_
    refine x_istore 64 dC_riskWith_62 rfl (by decide) rfl ?_
    refine x_iload 66 dC_riskWith_64 rfl rfl ?_
    refine x_iload_n 67 dC_riskWith_66 rfl rfl ?_
    refine x_icmp_ne 81 70 dC_riskWith_67 (by decide) rfl (fun h67 => ?_) (fun h67 => ?_)
    · skip
      refine x_iload 83 dC_riskWith_81 rfl rfl ?_
      refine x_iload_n 84 dC_riskWith_83 rfl rfl ?_
      refine x_icmp_ne 99 87 dC_riskWith_84 (by decide) rfl (fun h84 => ?_) (fun h84 => ?_)
      · skip
        refine x_lload 101 dC_riskWith_99 rfl rfl ?_
        refine x_gets 104 sC_riskWith_198 dC_riskWith_101 rfl ?_
        refine x_iload 106 dC_riskWith_104 rfl rfl ?_
        refine x_rate 107 dC_riskWith_106 rfl (by assumption) ?_
        refine x_i2l 108 dC_riskWith_107 rfl ?_
        refine x_iload 110 dC_riskWith_108 rfl rfl ?_
        refine x_mabs 113 kC_201 dC_riskWith_110 rfl (by decide) (Nat.le_of_ble_eq_true rfl) ?_
        refine x_iload 115 dC_riskWith_113 rfl rfl ?_
        refine x_mabs 118 kC_201 dC_riskWith_115 rfl (by decide) (Nat.le_of_ble_eq_true rfl) ?_
        refine x_mmax 121 kC_204 dC_riskWith_118 rfl (by decide) (Nat.le_of_ble_eq_true rfl) ?_
        refine x_i2l 122 dC_riskWith_121 rfl ?_
        refine x_lmul 123 dC_riskWith_122 rfl ?_
        refine x_ladd 124 dC_riskWith_123 rfl ?_
        refine x_lstore 126 dC_riskWith_124 rfl (by decide) rfl ?_
        refine x_iinc 129 dC_riskWith_126 rfl rfl (by decide) rfl ?_
        refine x_goto 6 dC_riskWith_129 (by decide) ?_
        exact ih _ _ _ _ _ (by rw [i_inc (by omega) (by omega)]; omega) (by rw [i_inc (by omega) (by omega)]; omega) (by first | (simp only [rkF, rk1, if_neg h67, if_neg h84]; done) | contradiction)
      · skip
        refine x_iload_n 88 dC_riskWith_87 rfl rfl ?_
        refine x_iconst 1 89 dC_riskWith_88 rfl rfl ?_
        refine x_icmp_ne 99 92 dC_riskWith_89 (by decide) rfl (fun h89 => ?_) (fun h89 => ?_)
        · skip
          refine x_lload 101 dC_riskWith_99 rfl rfl ?_
          refine x_gets 104 sC_riskWith_198 dC_riskWith_101 rfl ?_
          refine x_iload 106 dC_riskWith_104 rfl rfl ?_
          refine x_rate 107 dC_riskWith_106 rfl (by assumption) ?_
          refine x_i2l 108 dC_riskWith_107 rfl ?_
          refine x_iload 110 dC_riskWith_108 rfl rfl ?_
          refine x_mabs 113 kC_201 dC_riskWith_110 rfl (by decide) (Nat.le_of_ble_eq_true rfl) ?_
          refine x_iload 115 dC_riskWith_113 rfl rfl ?_
          refine x_mabs 118 kC_201 dC_riskWith_115 rfl (by decide) (Nat.le_of_ble_eq_true rfl) ?_
          refine x_mmax 121 kC_204 dC_riskWith_118 rfl (by decide) (Nat.le_of_ble_eq_true rfl) ?_
          refine x_i2l 122 dC_riskWith_121 rfl ?_
          refine x_lmul 123 dC_riskWith_122 rfl ?_
          refine x_ladd 124 dC_riskWith_123 rfl ?_
          refine x_lstore 126 dC_riskWith_124 rfl (by decide) rfl ?_
          refine x_iinc 129 dC_riskWith_126 rfl rfl (by decide) rfl ?_
          refine x_goto 6 dC_riskWith_129 (by decide) ?_
          exact ih _ _ _ _ _ (by rw [i_inc (by omega) (by omega)]; omega) (by rw [i_inc (by omega) (by omega)]; omega) (by first | (simp only [rkF, rk1, if_neg h67, if_pos h84, if_neg h89]; done) | contradiction)
        · skip
          refine x_iload 94 dC_riskWith_92 rfl rfl ?_
          refine x_iload 96 dC_riskWith_94 rfl rfl ?_
          refine x_isub 97 dC_riskWith_96 rfl ?_
          refine x_istore 99 dC_riskWith_97 rfl (by decide) rfl ?_
          refine x_lload 101 dC_riskWith_99 rfl rfl ?_
          refine x_gets 104 sC_riskWith_198 dC_riskWith_101 rfl ?_
          refine x_iload 106 dC_riskWith_104 rfl rfl ?_
          refine x_rate 107 dC_riskWith_106 rfl (by assumption) ?_
          refine x_i2l 108 dC_riskWith_107 rfl ?_
          refine x_iload 110 dC_riskWith_108 rfl rfl ?_
          refine x_mabs 113 kC_201 dC_riskWith_110 rfl (by decide) (Nat.le_of_ble_eq_true rfl) ?_
          refine x_iload 115 dC_riskWith_113 rfl rfl ?_
          refine x_mabs 118 kC_201 dC_riskWith_115 rfl (by decide) (Nat.le_of_ble_eq_true rfl) ?_
          refine x_mmax 121 kC_204 dC_riskWith_118 rfl (by decide) (Nat.le_of_ble_eq_true rfl) ?_
          refine x_i2l 122 dC_riskWith_121 rfl ?_
          refine x_lmul 123 dC_riskWith_122 rfl ?_
          refine x_ladd 124 dC_riskWith_123 rfl ?_
          refine x_lstore 126 dC_riskWith_124 rfl (by decide) rfl ?_
          refine x_iinc 129 dC_riskWith_126 rfl rfl (by decide) rfl ?_
          refine x_goto 6 dC_riskWith_129 (by decide) ?_
          exact ih _ _ _ _ _ (by rw [i_inc (by omega) (by omega)]; omega) (by rw [i_inc (by omega) (by omega)]; omega) (by first | (simp only [rkF, rk1, if_neg h67, if_pos h84, if_pos h89]; done) | contradiction)
    · skip
      refine x_iload_n 71 dC_riskWith_70 rfl rfl ?_
      refine x_if_ne 81 74 dC_riskWith_71 (by decide) rfl (fun h71 => ?_) (fun h71 => ?_)
      · skip
        refine x_iload 83 dC_riskWith_81 rfl rfl ?_
        refine x_iload_n 84 dC_riskWith_83 rfl rfl ?_
        refine x_icmp_ne 99 87 dC_riskWith_84 (by decide) rfl (fun h84 => ?_) (fun h84 => ?_)
        · skip
          refine x_lload 101 dC_riskWith_99 rfl rfl ?_
          refine x_gets 104 sC_riskWith_198 dC_riskWith_101 rfl ?_
          refine x_iload 106 dC_riskWith_104 rfl rfl ?_
          refine x_rate 107 dC_riskWith_106 rfl (by assumption) ?_
          refine x_i2l 108 dC_riskWith_107 rfl ?_
          refine x_iload 110 dC_riskWith_108 rfl rfl ?_
          refine x_mabs 113 kC_201 dC_riskWith_110 rfl (by decide) (Nat.le_of_ble_eq_true rfl) ?_
          refine x_iload 115 dC_riskWith_113 rfl rfl ?_
          refine x_mabs 118 kC_201 dC_riskWith_115 rfl (by decide) (Nat.le_of_ble_eq_true rfl) ?_
          refine x_mmax 121 kC_204 dC_riskWith_118 rfl (by decide) (Nat.le_of_ble_eq_true rfl) ?_
          refine x_i2l 122 dC_riskWith_121 rfl ?_
          refine x_lmul 123 dC_riskWith_122 rfl ?_
          refine x_ladd 124 dC_riskWith_123 rfl ?_
          refine x_lstore 126 dC_riskWith_124 rfl (by decide) rfl ?_
          refine x_iinc 129 dC_riskWith_126 rfl rfl (by decide) rfl ?_
          refine x_goto 6 dC_riskWith_129 (by decide) ?_
          exact ih _ _ _ _ _ (by rw [i_inc (by omega) (by omega)]; omega) (by rw [i_inc (by omega) (by omega)]; omega) (by first | (simp only [rkF, rk1, if_pos h67, if_neg h71, if_neg h84]; done) | contradiction)
        · skip
          refine x_iload_n 88 dC_riskWith_87 rfl rfl ?_
          refine x_iconst 1 89 dC_riskWith_88 rfl rfl ?_
          refine x_icmp_ne 99 92 dC_riskWith_89 (by decide) rfl (fun h89 => ?_) (fun h89 => ?_)
          · skip
            refine x_lload 101 dC_riskWith_99 rfl rfl ?_
            refine x_gets 104 sC_riskWith_198 dC_riskWith_101 rfl ?_
            refine x_iload 106 dC_riskWith_104 rfl rfl ?_
            refine x_rate 107 dC_riskWith_106 rfl (by assumption) ?_
            refine x_i2l 108 dC_riskWith_107 rfl ?_
            refine x_iload 110 dC_riskWith_108 rfl rfl ?_
            refine x_mabs 113 kC_201 dC_riskWith_110 rfl (by decide) (Nat.le_of_ble_eq_true rfl) ?_
            refine x_iload 115 dC_riskWith_113 rfl rfl ?_
            refine x_mabs 118 kC_201 dC_riskWith_115 rfl (by decide) (Nat.le_of_ble_eq_true rfl) ?_
            refine x_mmax 121 kC_204 dC_riskWith_118 rfl (by decide) (Nat.le_of_ble_eq_true rfl) ?_
            refine x_i2l 122 dC_riskWith_121 rfl ?_
            refine x_lmul 123 dC_riskWith_122 rfl ?_
            refine x_ladd 124 dC_riskWith_123 rfl ?_
            refine x_lstore 126 dC_riskWith_124 rfl (by decide) rfl ?_
            refine x_iinc 129 dC_riskWith_126 rfl rfl (by decide) rfl ?_
            refine x_goto 6 dC_riskWith_129 (by decide) ?_
            exact ih _ _ _ _ _ (by rw [i_inc (by omega) (by omega)]; omega) (by rw [i_inc (by omega) (by omega)]; omega) (by first | (simp only [rkF, rk1, if_pos h67, if_neg h71, if_pos h84, if_neg h89]; done) | contradiction)
          · skip
            refine x_iload 94 dC_riskWith_92 rfl rfl ?_
            refine x_iload 96 dC_riskWith_94 rfl rfl ?_
            refine x_isub 97 dC_riskWith_96 rfl ?_
            refine x_istore 99 dC_riskWith_97 rfl (by decide) rfl ?_
            refine x_lload 101 dC_riskWith_99 rfl rfl ?_
            refine x_gets 104 sC_riskWith_198 dC_riskWith_101 rfl ?_
            refine x_iload 106 dC_riskWith_104 rfl rfl ?_
            refine x_rate 107 dC_riskWith_106 rfl (by assumption) ?_
            refine x_i2l 108 dC_riskWith_107 rfl ?_
            refine x_iload 110 dC_riskWith_108 rfl rfl ?_
            refine x_mabs 113 kC_201 dC_riskWith_110 rfl (by decide) (Nat.le_of_ble_eq_true rfl) ?_
            refine x_iload 115 dC_riskWith_113 rfl rfl ?_
            refine x_mabs 118 kC_201 dC_riskWith_115 rfl (by decide) (Nat.le_of_ble_eq_true rfl) ?_
            refine x_mmax 121 kC_204 dC_riskWith_118 rfl (by decide) (Nat.le_of_ble_eq_true rfl) ?_
            refine x_i2l 122 dC_riskWith_121 rfl ?_
            refine x_lmul 123 dC_riskWith_122 rfl ?_
            refine x_ladd 124 dC_riskWith_123 rfl ?_
            refine x_lstore 126 dC_riskWith_124 rfl (by decide) rfl ?_
            refine x_iinc 129 dC_riskWith_126 rfl rfl (by decide) rfl ?_
            refine x_goto 6 dC_riskWith_129 (by decide) ?_
            exact ih _ _ _ _ _ (by rw [i_inc (by omega) (by omega)]; omega) (by rw [i_inc (by omega) (by omega)]; omega) (by first | (simp only [rkF, rk1, if_pos h67, if_neg h71, if_pos h84, if_pos h89]; done) | contradiction)
      · skip
        refine x_iload 76 dC_riskWith_74 rfl rfl ?_
        refine x_iload 78 dC_riskWith_76 rfl rfl ?_
        refine x_iadd 79 dC_riskWith_78 rfl ?_
        refine x_istore 81 dC_riskWith_79 rfl (by decide) rfl ?_
        refine x_iload 83 dC_riskWith_81 rfl rfl ?_
        refine x_iload_n 84 dC_riskWith_83 rfl rfl ?_
        refine x_icmp_ne 99 87 dC_riskWith_84 (by decide) rfl (fun h84 => ?_) (fun h84 => ?_)
        · skip
          refine x_lload 101 dC_riskWith_99 rfl rfl ?_
          refine x_gets 104 sC_riskWith_198 dC_riskWith_101 rfl ?_
          refine x_iload 106 dC_riskWith_104 rfl rfl ?_
          refine x_rate 107 dC_riskWith_106 rfl (by assumption) ?_
          refine x_i2l 108 dC_riskWith_107 rfl ?_
          refine x_iload 110 dC_riskWith_108 rfl rfl ?_
          refine x_mabs 113 kC_201 dC_riskWith_110 rfl (by decide) (Nat.le_of_ble_eq_true rfl) ?_
          refine x_iload 115 dC_riskWith_113 rfl rfl ?_
          refine x_mabs 118 kC_201 dC_riskWith_115 rfl (by decide) (Nat.le_of_ble_eq_true rfl) ?_
          refine x_mmax 121 kC_204 dC_riskWith_118 rfl (by decide) (Nat.le_of_ble_eq_true rfl) ?_
          refine x_i2l 122 dC_riskWith_121 rfl ?_
          refine x_lmul 123 dC_riskWith_122 rfl ?_
          refine x_ladd 124 dC_riskWith_123 rfl ?_
          refine x_lstore 126 dC_riskWith_124 rfl (by decide) rfl ?_
          refine x_iinc 129 dC_riskWith_126 rfl rfl (by decide) rfl ?_
          refine x_goto 6 dC_riskWith_129 (by decide) ?_
          exact ih _ _ _ _ _ (by rw [i_inc (by omega) (by omega)]; omega) (by rw [i_inc (by omega) (by omega)]; omega) (by first | (simp only [rkF, rk1, if_pos h67, if_pos h71, if_neg h84]; done) | contradiction)
        · skip
          refine x_iload_n 88 dC_riskWith_87 rfl rfl ?_
          refine x_iconst 1 89 dC_riskWith_88 rfl rfl ?_
          refine x_icmp_ne 99 92 dC_riskWith_89 (by decide) rfl (fun h89 => ?_) (fun h89 => ?_)
          · skip
            refine x_lload 101 dC_riskWith_99 rfl rfl ?_
            refine x_gets 104 sC_riskWith_198 dC_riskWith_101 rfl ?_
            refine x_iload 106 dC_riskWith_104 rfl rfl ?_
            refine x_rate 107 dC_riskWith_106 rfl (by assumption) ?_
            refine x_i2l 108 dC_riskWith_107 rfl ?_
            refine x_iload 110 dC_riskWith_108 rfl rfl ?_
            refine x_mabs 113 kC_201 dC_riskWith_110 rfl (by decide) (Nat.le_of_ble_eq_true rfl) ?_
            refine x_iload 115 dC_riskWith_113 rfl rfl ?_
            refine x_mabs 118 kC_201 dC_riskWith_115 rfl (by decide) (Nat.le_of_ble_eq_true rfl) ?_
            refine x_mmax 121 kC_204 dC_riskWith_118 rfl (by decide) (Nat.le_of_ble_eq_true rfl) ?_
            refine x_i2l 122 dC_riskWith_121 rfl ?_
            refine x_lmul 123 dC_riskWith_122 rfl ?_
            refine x_ladd 124 dC_riskWith_123 rfl ?_
            refine x_lstore 126 dC_riskWith_124 rfl (by decide) rfl ?_
            refine x_iinc 129 dC_riskWith_126 rfl rfl (by decide) rfl ?_
            refine x_goto 6 dC_riskWith_129 (by decide) ?_
            exact ih _ _ _ _ _ (by rw [i_inc (by omega) (by omega)]; omega) (by rw [i_inc (by omega) (by omega)]; omega) (by first | (simp only [rkF, rk1, if_pos h67, if_pos h71, if_pos h84, if_neg h89]; done) | contradiction)
          · skip
            refine x_iload 94 dC_riskWith_92 rfl rfl ?_
            refine x_iload 96 dC_riskWith_94 rfl rfl ?_
            refine x_isub 97 dC_riskWith_96 rfl ?_
            refine x_istore 99 dC_riskWith_97 rfl (by decide) rfl ?_
            refine x_lload 101 dC_riskWith_99 rfl rfl ?_
            refine x_gets 104 sC_riskWith_198 dC_riskWith_101 rfl ?_
            refine x_iload 106 dC_riskWith_104 rfl rfl ?_
            refine x_rate 107 dC_riskWith_106 rfl (by assumption) ?_
            refine x_i2l 108 dC_riskWith_107 rfl ?_
            refine x_iload 110 dC_riskWith_108 rfl rfl ?_
            refine x_mabs 113 kC_201 dC_riskWith_110 rfl (by decide) (Nat.le_of_ble_eq_true rfl) ?_
            refine x_iload 115 dC_riskWith_113 rfl rfl ?_
            refine x_mabs 118 kC_201 dC_riskWith_115 rfl (by decide) (Nat.le_of_ble_eq_true rfl) ?_
            refine x_mmax 121 kC_204 dC_riskWith_118 rfl (by decide) (Nat.le_of_ble_eq_true rfl) ?_
            refine x_i2l 122 dC_riskWith_121 rfl ?_
            refine x_lmul 123 dC_riskWith_122 rfl ?_
            refine x_ladd 124 dC_riskWith_123 rfl ?_
            refine x_lstore 126 dC_riskWith_124 rfl (by decide) rfl ?_
            refine x_iinc 129 dC_riskWith_126 rfl rfl (by decide) rfl ?_
            refine x_goto 6 dC_riskWith_129 (by decide) ?_
            exact ih _ _ _ _ _ (by rw [i_inc (by omega) (by omega)]; omega) (by rw [i_inc (by omega) (by omega)]; omega) (by first | (simp only [rkF, rk1, if_pos h67, if_pos h71, if_pos h84, if_pos h89]; done) | contradiction)
theorem cC_riskWith {m : Int32} (hm : vp_in m 5) {ls : Nat → List Nat} (hc : ∀ j < 4, Ch P (P 1 j) (ls j)) (hl : ∀ j < 4, ∀ o ∈ ls j, o < N) (i s q : Int32) : x_C l G mC_riskWith 1 0 0 [xR (some (5, 0)), xI m, xI i, xI s, xI q] (hp N I J P V A B) [] (x_is (some (xJ (rsk I V ls m i s q))) (hp N I J P V A B)) := by
  refine x_C.at [some (xR (some (5, 0))), some (xI m), some (xI i), some (xI s), some (xI q), none, none, none, none, none, none] rfl (Nat.le_of_ble_eq_true rfl) rfl ?_
  refine x_lconst 0 1 dC_riskWith_0 rfl rfl ?_
  refine x_lstore 3 dC_riskWith_1 rfl (by decide) rfl ?_
  refine x_iconst 0 4 dC_riskWith_3 rfl rfl ?_
  refine x_istore 6 dC_riskWith_4 rfl (by decide) rfl ?_
  exact lp_risk hm hc hl i s q _ 2 0 0 _ _ _ (by decide) (by decide) rfl
theorem cC_riskOf {m : Int32} (hm : vp_in m 5) {ls : Nat → List Nat} (hc : ∀ j < 4, Ch P (P 1 j) (ls j)) (hl : ∀ j < 4, ∀ o ∈ ls j, o < N) : x_C l G mC_riskOf 2 0 0 [xR (some (5, 0)), xI m] (hp N I J P V A B) [] (x_is (some (xJ (rsk I V ls m 0 0 0))) (hp N I J P V A B)) := by
  refine x_C.at [some (xR (some (5, 0))), some (xI m)] rfl (Nat.le_of_ble_eq_true rfl) rfl ?_
  refine x_aload_n 1 dC_riskOf_0 rfl rfl ?_
  refine x_iload_n 2 dC_riskOf_1 rfl rfl ?_
  refine x_iconst 0 3 dC_riskOf_2 rfl rfl ?_
  refine x_iconst 0 4 dC_riskOf_3 rfl rfl ?_
  refine x_iconst 0 5 dC_riskOf_4 rfl rfl ?_
  refine x_fVv 8 (cC_riskWith hm hc hl 0 0 0) kC_81 oC_riskWith rfl rfl dC_riskOf_5 rfl rfl (by decide) (Nat.le_of_ble_eq_true rfl) ?_
  exact x_lret dC_riskOf_8 rfl ⟨rfl, rfl⟩
end M5
