/-! ===== the law's start: the world behind the constructors ===== -/
theorem kgd {α : Type} {d : α} : ∀ (l : List α) (n : Nat), l.length ≤ n → l.getD n d = d
  | [], _, _ => rfl
  | a :: t, 0, h => absurd h (Nat.not_succ_le_zero _)
  | a :: t, n + 1, h => kgd t n (Nat.le_of_succ_le_succ h)
def kmix (f : Int → Int) (m : km_Mm) : km_Mm := fun a j => if a = -2 then f j else m a j
theorem kmix_up {f : Int → Int} {m : km_Mm} {a i v : Int} (h : a ≠ -2) : km_up (kmix f m) a i v = kmix f (km_up m a i v) := by
  funext b j
  unfold km_up kmix
  dsimp only
  by_cases e : b = a
  · rw [if_pos e, if_pos e, e, if_neg h, if_neg h]
  · rw [if_neg e, if_neg e]
theorem kmix_zr {f : Int → Int} {m : km_Mm} {k : Int} (h : k ≠ -2) : km_zr k (kmix f m) = kmix f (km_zr k m) := by
  funext b j
  unfold km_zr kmix
  dsimp only
  by_cases e : b = k
  · rw [if_pos e, if_pos e, e, if_neg h]
  · rw [if_neg e, if_neg e]
theorem kmix_zm {f : Int → Int} {m : km_Mm} {n k : Int} (h : -2 < k) : km_zm n k (kmix f m) = kmix f (km_zm n k m) := by
  funext b j
  unfold km_zm kmix
  dsimp only
  by_cases e : k ≤ b ∧ b ≤ k + n
  · rw [if_pos e, if_pos e, if_neg (by omega)]
  · rw [if_neg e, if_neg e]
theorem kmix_fl2 {f : Int → Int} {m : km_Mm} {a i n v : Int} (h : a ≠ -2) : km_fl2 (kmix f m) a i n v = kmix f (km_fl2 m a i n v) := by
  funext b j
  unfold km_fl2 kmix
  dsimp only
  by_cases e : b = a ∧ i ≤ j ∧ j < n
  · rw [if_pos e, if_pos e, if_neg (by omega)]
  · rw [if_neg e, if_neg e]
def kR00 : km_Mm := fun _ _ => -1
def kM00 : km_Mm := fun _ _ => 0
set_option maxRecDepth 100000 in
def kRx : km_Mm := (km_Rn (km_up (km_Rn (km_up (km_Rn (km_up (km_Rn (km_up (km_Rn (km_up (km_Rn (km_up (km_Rn (km_up (km_Rn (km_up (km_Rn (km_up (km_Rn (km_up (km_Rn (km_up (km_Rn (km_up (km_Rn (km_up (km_Rn (km_up (km_Rn (km_up (km_Rn (km_up (km_Rn (km_up (km_Rn (km_up (km_Rn (km_up (km_Rn (km_up (km_Rn (km_up (km_Rn (km_up (km_Rn (km_up (km_Rn (km_up (km_Rn (km_up (km_Rn (km_up (km_Rn (km_up (km_Rn (km_up (km_Rn (km_up (km_Rn (km_up (km_Rn (km_up (km_Rn (km_up (km_Rn (km_up (km_Rn (km_up (km_Rn (km_up (km_Rn (km_up (km_Rn (km_up (km_Rn (km_up (km_Rn (km_up (km_Rn (km_up (km_Rn (km_up (km_Rn (km_up (km_Rn (km_up (km_Rn (km_up (km_Rn (km_up (km_Rn (km_up (km_Rn (km_up (km_Rn (km_up (km_Rn (km_up (km_Rn (km_up (km_Rn (km_up (km_Rn (km_up (km_Rn (km_up (km_Rn (km_up (km_Rn (km_up (km_Rn (km_up (km_Rn (km_up (km_Rn (km_up (km_Rn (km_up (km_Rn (km_up (km_Rn (km_Rn (km_up (km_up (km_Rn (km_up (km_Rn (km_up (km_Rn (km_up (km_Rn (km_up (km_Rn (km_up (km_Rn (km_up (km_Rn (km_up (km_Rn (km_up (km_Rn (km_Rn (km_up (km_up (km_Rn (km_up (km_Rq (km_up (km_Rn (km_up (km_Rn (km_Rn (km_up (km_up (km_Rn (km_up (km_Rq (km_up (km_Rn (km_up (km_Rn (km_up (km_Rn (km_up (km_Rn (km_up (km_Rn (km_up (km_Rn (km_up (km_Rn (km_up (km_Rn (km_Rn (km_up (km_up (km_up (km_up (km_Rn (km_up (km_Rq (km_up (km_Rn (km_up (km_Rn (km_Rn (km_up (km_up (km_Rn (km_up (km_Rn (km_up (km_Rn (km_up (km_Rn (km_up (km_Rn (km_up (km_Rn (km_up (km_Rn (km_up (km_Rn (km_up (km_Rn (km_Rn (km_up (km_up (km_up (km_Rn (km_up (km_Rn (km_up (km_Rn (km_up (km_Rn (km_up (km_Rn (km_up (km_Rn (km_Rn (km_up (km_up (km_up (km_Rn (km_up (km_Rn (km_up (km_Rn (km_up (km_Rn (km_up (km_Rn (km_Rn (km_up (km_up (km_Rn (km_up (km_Rn (km_up (km_Rn (km_up (km_Rn (km_up (km_Rn (km_Rn (km_up (km_up (km_up (km_Rn (km_up (km_Rn (km_Rn (km_up (km_up (km_up (km_Rn (km_up (km_Rq (km_up (km_Rq (km_up (km_Rn (km_up (km_Rn (km_Rn (km_up (km_Rn (km_up (km_Rn (km_up (km_Rn (km_up (km_Rn (km_up (km_Rn (km_up (km_Rn (km_up (km_Rn (km_up (km_Rq (km_Rn (km_up (km_Rn (km_Rn (km_up (km_Rn (km_up (km_Rn (km_Rn kR00 0) 1) 0 12 1) 2) 0 13 2) 3) 4) 3 0 4) 5) 6) 5 0 6) 12) 5 4 12) 13) 5 5 13) 14) 5 6 14) 15) 5 7 15) 16) 5 9 16) 17) 5 10 17) 18) 5 11 18) 19) 20) 19 2 20) 21) 19 3 21) 22) 19 4 22) 29) 19 5 29) 36) 19 6 36) 19 0 5) 0 0 3) 37) 38) 37 7 38) 39) 37 8 39) 37 0 3) 0 1 37) 40) 41) 40 0 41) 42) 40 1 42) 43) 40 2 43) 44) 40 3 44) 45) 40 5 45) 0 2 40) 46) 47) 46 0 47) 48) 46 1 48) 49) 46 2 49) 50) 46 3 50) 51) 46 5 51) 0 3 46) 0 4 5) 52) 53) 52 0 53) 54) 52 1 54) 55) 52 2 55) 56) 52 4 56) 57) 52 5 57) 58) 52 6 58) 0 5 52) 0 6 19) 59) 60) 59 1 60) 61) 59 2 61) 62) 59 3 62) 63) 59 4 63) 64) 59 5 64) 65) 59 6 65) 66) 59 7 66) 67) 59 8 67) 68) 59 9 68) 0 7 59) 69) 70) 69 3 70) 71) 69 4 71) 72) 69 5 72) 84) 69 7 84) 69 0 5) 69 1 19) 0 8 69) 85) 86) 85 1 86) 87) 85 3 87) 88) 85 4 88) 89) 85 5 89) 90) 85 6 90) 91) 85 7 91) 92) 85 8 92) 93) 85 9 93) 94) 85 10 94) 99) 85 11 99) 0 9 85) 100) 101) 100 2 101) 102) 100 3 102) 103) 100 5 103) 112) 100 6 112) 0 10 100) 113) 114) 113 0 114) 115) 113 1 115) 116) 113 2 116) 117) 113 3 117) 118) 113 4 118) 119) 113 5 119) 120) 113 7 120) 121) 113 8 121) 122) 113 9 122) 0 11 113) 123) 124) 123 0 124) 125) 123 4 125) 126) 123 6 126) 127) 123 7 127) 128) 123 8 128) 129) 123 9 129) 130) 123 10 130) 131) 123 12 131) 132) 123 13 132) 133) 123 15 133) 134) 123 16 134) 135) 123 17 135) 136) 123 18 136) 137) 123 22 137) 138) 123 30 138) 139) 123 31 139) 140) 123 32 140) 141) 123 33 141) 142) 123 34 142) 143) 123 37 143) 144) 123 38 144) 145) 123 40 145) 146) 123 42 146) 147) 123 49 147) 148) 123 50 148) 149) 123 52 149) 150) 123 62 150) 151) 123 64 151) 152) 123 65 152) 153) 123 66 153) 154) 123 68 154) 155) 123 69 155) 156) 123 70 156) 157) 123 71 157) 158) 123 72 158) 159) 123 73 159) 160) 123 74 160) 161) 123 75 161) 162) 123 76 162) 163) 123 84 163) 164) 123 85 164) 165) 123 86 165) 166) 123 88 166) 167) 123 90 167) 168) 123 92 168) 169) 123 93 169) 170) 123 94 170) 171) 123 95 171) 172) 123 96 172) 173) 123 97 173) 174) 123 98 174) 175) 123 99 175) 176) 123 100 176) 177) 123 102 177) 178) 123 103 178) 179) 123 104 179) 180) 123 105 180) 181) 123 106 181) 182) 123 107 182) 183) 123 108 183) 184)
set_option maxRecDepth 100000 in
def kMx : km_Mm := (km_zr 184 (km_up (km_up (km_up (km_up (km_up (km_up (km_up (km_zr 183 (km_zr 182 (km_zr 181 (km_zr 180 (km_zr 179 (km_zr 178 (km_zr 177 (km_zr 176 (km_zr 175 (km_zr 174 (km_zr 173 (km_zr 172 (km_zr 171 (km_zr 170 (km_zr 169 (km_zr 168 (km_zr 167 (km_zr 166 (km_up (km_up (km_up (km_up (km_zr 165 (km_zr 164 (km_zr 163 (km_up (km_zr 162 (km_zr 161 (km_zr 160 (km_zr 159 (km_zr 158 (km_zr 157 (km_zr 156 (km_zr 155 (km_zr 154 (km_zr 153 (km_zr 152 (km_zr 151 (km_zr 150 (km_zr 149 (km_zr 148 (km_zr 147 (km_zr 146 (km_zr 145 (km_zr 144 (km_zr 143 (km_up (km_up (km_up (km_up (km_up (km_up (km_up (km_up (km_up (km_up (km_up (km_up (km_up (km_up (km_zr 142 (km_zr 141 (km_zr 140 (km_zr 139 (km_zr 138 (km_up (km_up (km_up (km_up (km_up (km_up (km_up (km_up (km_up (km_up (km_up (km_up (km_up (km_up (km_up (km_up (km_up (km_up (km_up (km_up (km_up (km_up (km_up (km_up (km_up (km_up (km_up (km_up (km_up (km_up (km_up (km_up (km_up (km_up (km_up (km_up (km_up (km_up (km_up (km_up (km_up (km_up (km_up (km_up (km_up (km_up (km_up (km_up (km_up (km_up (km_up (km_up (km_up (km_up (km_up (km_up (km_up (km_up (km_up (km_up (km_up (km_up (km_up (km_up (km_up (km_up (km_up (km_up (km_up (km_up (km_up (km_up (km_up (km_up (km_up (km_up (km_up (km_up (km_up (km_up (km_up (km_up (km_up (km_up (km_up (km_up (km_up (km_up (km_up (km_up (km_up (km_up (km_up (km_up (km_up (km_up (km_up (km_up (km_up (km_up (km_up (km_up (km_up (km_up (km_up (km_up (km_up (km_up (km_up (km_up (km_up (km_up (km_up (km_up (km_up (km_up (km_up (km_up (km_up (km_up (km_up (km_up (km_up (km_up (km_up (km_up (km_up (km_up (km_up (km_up (km_up (km_up (km_up (km_zr 137 (km_zr 136 (km_zr 135 (km_zr 134 (km_zr 133 (km_zr 132 (km_zr 131 (km_zr 130 (km_zr 129 (km_zr 128 (km_zr 127 (km_zr 126 (km_zr 125 (km_zr 124 (km_zr 123 (km_fl2 (km_zr 122 (km_zr 121 (km_zr 120 (km_zr 119 (km_zr 118 (km_zr 117 (km_zr 116 (km_zr 115 (km_zr 114 (km_zr 113 (km_fl2 (km_zr 112 (km_zm 8 103 (km_zr 102 (km_zr 101 (km_up (km_zr 100 (km_zr 99 (km_zm 4 94 (km_zr 93 (km_zr 92 (km_zr 91 (km_zr 90 (km_up (km_up (km_up (km_up (km_zr 89 (km_zr 88 (km_zr 87 (km_zr 86 (km_zr 85 (km_zr 84 (km_zm 11 72 (km_zr 71 (km_zr 70 (km_up (km_zr 69 (km_zr 68 (km_zr 67 (km_zr 66 (km_zr 65 (km_zr 64 (km_zr 63 (km_zr 62 (km_zr 61 (km_zr 60 (km_zr 59 (km_zr 58 (km_zr 57 (km_zr 56 (km_zr 55 (km_zr 54 (km_zr 53 (km_zr 52 (km_fl2 (km_zr 51 (km_zr 50 (km_zr 49 (km_zr 48 (km_zr 47 (km_zr 46 (km_fl2 (km_zr 45 (km_zr 44 (km_zr 43 (km_zr 42 (km_zr 41 (km_zr 40 (km_zr 39 (km_zr 38 (km_up (km_zr 37 (km_zr 36 (km_zm 6 29 (km_zm 6 22 (km_zr 21 (km_zr 20 (km_zr 19 (km_zr 18 (km_zr 17 (km_zr 16 (km_zr 15 (km_zr 14 (km_zr 13 (km_zr 12 (km_zm 5 6 (km_zr 5 (km_zr 4 (km_zr 3 (km_zr 2 (km_zr 1 (km_zr 0 kM00))))))))))))))))))))) 37 3 (-1)))))))))) 45 0 7 (-1)))))))) 51 0 7 (-1)))))))))))))))))))) 69 2 (-1))))))))))) 89 0 3) 89 1 5) 89 2 1) 89 3 2)))))))) 100 0 (-1)))))) 102 0 10 (-1)))))))))))) 2 0 4 (-1))))))))))))))))) 137 0 115) 137 1 99) 137 2 111) 137 3 114) 137 4 101) 137 5 32) 137 6 98) 137 7 97) 137 8 114) 137 9 32) 137 10 112) 137 11 97) 137 12 121) 137 13 32) 137 14 104) 137 15 111) 137 16 115) 137 17 116) 137 18 32) 137 19 97) 137 20 110) 137 21 100) 137 22 32) 137 23 111) 137 24 114) 137 25 32) 137 26 110) 137 27 111) 137 28 116) 137 29 32) 137 30 105) 137 31 102) 137 32 32) 137 33 115) 137 34 117) 137 35 109) 137 36 32) 137 37 109) 137 38 97) 137 39 120) 137 40 32) 137 41 109) 137 42 105) 137 43 110) 137 44 32) 137 45 99) 137 46 111) 137 47 117) 137 48 110) 137 49 116) 137 50 32) 137 51 108) 137 52 97) 137 53 110) 137 54 100) 137 55 32) 137 56 100) 137 57 97) 137 58 121) 137 59 32) 137 60 102) 137 61 97) 137 62 114) 137 63 101) 137 64 32) 137 65 99) 137 66 111) 137 67 109) 137 68 101) 137 69 32) 137 70 104) 137 71 111) 137 72 109) 137 73 101) 137 74 32) 137 75 98) 137 76 114) 137 77 97) 137 78 110) 137 79 99) 137 80 104) 137 81 32) 137 82 97) 137 83 103) 137 84 101) 137 85 32) 137 86 109) 137 87 101) 137 88 97) 137 89 110) 137 90 115) 137 91 32) 137 92 99) 137 93 97) 137 94 110) 137 95 32) 137 96 114) 137 97 101) 137 98 103) 137 99 114) 137 100 101) 137 101 116) 137 102 32) 137 103 109) 137 104 105) 137 105 108) 137 106 101) 137 107 115) 137 108 32) 137 109 116) 137 110 105) 137 111 109) 137 112 101) 137 113 115) 137 114 32) 137 115 108) 137 116 97) 137 117 115) 137 118 116) 137 119 32) 137 120 112) 137 121 101) 137 122 111) 137 123 112) 137 124 108) 137 125 101) 137 126 32) 137 127 109) 137 128 105) 137 129 110) 137 130 101) 137 131 32) 123 24 (-1))))))) 142 0 (-1)) 142 1 (-1)) 142 2 (-1)) 142 3 (-1)) 142 4 (-1)) 142 5 (-1)) 142 6 (-1)) 142 7 (-1)) 142 8 (-1)) 142 9 (-1)) 142 10 (-1)) 142 11 (-1)) 142 12 (-1)) 142 13 (-1)))))))))))))))))))))) 123 81 (-1))))) 165 0 3) 165 1 5) 165 2 1) 123 87 2))))))))))))))))))) 183 0 (-1)) 183 1 (-1)) 183 2 (-1)) 183 3 (-1)) 142 0 (-1)) 142 5 (-1)) 142 6 (-1)))
set_option maxRecDepth 100000 in
theorem kMx_mix {f : Int → Int} : (km_zr 184 (km_up (km_up (km_up (km_up (km_up (km_up (km_up (km_zr 183 (km_zr 182 (km_zr 181 (km_zr 180 (km_zr 179 (km_zr 178 (km_zr 177 (km_zr 176 (km_zr 175 (km_zr 174 (km_zr 173 (km_zr 172 (km_zr 171 (km_zr 170 (km_zr 169 (km_zr 168 (km_zr 167 (km_zr 166 (km_up (km_up (km_up (km_up (km_zr 165 (km_zr 164 (km_zr 163 (km_up (km_zr 162 (km_zr 161 (km_zr 160 (km_zr 159 (km_zr 158 (km_zr 157 (km_zr 156 (km_zr 155 (km_zr 154 (km_zr 153 (km_zr 152 (km_zr 151 (km_zr 150 (km_zr 149 (km_zr 148 (km_zr 147 (km_zr 146 (km_zr 145 (km_zr 144 (km_zr 143 (km_up (km_up (km_up (km_up (km_up (km_up (km_up (km_up (km_up (km_up (km_up (km_up (km_up (km_up (km_zr 142 (km_zr 141 (km_zr 140 (km_zr 139 (km_zr 138 (km_up (km_up (km_up (km_up (km_up (km_up (km_up (km_up (km_up (km_up (km_up (km_up (km_up (km_up (km_up (km_up (km_up (km_up (km_up (km_up (km_up (km_up (km_up (km_up (km_up (km_up (km_up (km_up (km_up (km_up (km_up (km_up (km_up (km_up (km_up (km_up (km_up (km_up (km_up (km_up (km_up (km_up (km_up (km_up (km_up (km_up (km_up (km_up (km_up (km_up (km_up (km_up (km_up (km_up (km_up (km_up (km_up (km_up (km_up (km_up (km_up (km_up (km_up (km_up (km_up (km_up (km_up (km_up (km_up (km_up (km_up (km_up (km_up (km_up (km_up (km_up (km_up (km_up (km_up (km_up (km_up (km_up (km_up (km_up (km_up (km_up (km_up (km_up (km_up (km_up (km_up (km_up (km_up (km_up (km_up (km_up (km_up (km_up (km_up (km_up (km_up (km_up (km_up (km_up (km_up (km_up (km_up (km_up (km_up (km_up (km_up (km_up (km_up (km_up (km_up (km_up (km_up (km_up (km_up (km_up (km_up (km_up (km_up (km_up (km_up (km_up (km_up (km_up (km_up (km_up (km_up (km_up (km_up (km_zr 137 (km_zr 136 (km_zr 135 (km_zr 134 (km_zr 133 (km_zr 132 (km_zr 131 (km_zr 130 (km_zr 129 (km_zr 128 (km_zr 127 (km_zr 126 (km_zr 125 (km_zr 124 (km_zr 123 (km_fl2 (km_zr 122 (km_zr 121 (km_zr 120 (km_zr 119 (km_zr 118 (km_zr 117 (km_zr 116 (km_zr 115 (km_zr 114 (km_zr 113 (km_fl2 (km_zr 112 (km_zm 8 103 (km_zr 102 (km_zr 101 (km_up (km_zr 100 (km_zr 99 (km_zm 4 94 (km_zr 93 (km_zr 92 (km_zr 91 (km_zr 90 (km_up (km_up (km_up (km_up (km_zr 89 (km_zr 88 (km_zr 87 (km_zr 86 (km_zr 85 (km_zr 84 (km_zm 11 72 (km_zr 71 (km_zr 70 (km_up (km_zr 69 (km_zr 68 (km_zr 67 (km_zr 66 (km_zr 65 (km_zr 64 (km_zr 63 (km_zr 62 (km_zr 61 (km_zr 60 (km_zr 59 (km_zr 58 (km_zr 57 (km_zr 56 (km_zr 55 (km_zr 54 (km_zr 53 (km_zr 52 (km_fl2 (km_zr 51 (km_zr 50 (km_zr 49 (km_zr 48 (km_zr 47 (km_zr 46 (km_fl2 (km_zr 45 (km_zr 44 (km_zr 43 (km_zr 42 (km_zr 41 (km_zr 40 (km_zr 39 (km_zr 38 (km_up (km_zr 37 (km_zr 36 (km_zm 6 29 (km_zm 6 22 (km_zr 21 (km_zr 20 (km_zr 19 (km_zr 18 (km_zr 17 (km_zr 16 (km_zr 15 (km_zr 14 (km_zr 13 (km_zr 12 (km_zm 5 6 (km_zr 5 (km_zr 4 (km_zr 3 (km_zr 2 (km_zr 1 (km_zr 0 (kmix f kM00)))))))))))))))))))))) 37 3 (-1)))))))))) 45 0 7 (-1)))))))) 51 0 7 (-1)))))))))))))))))))) 69 2 (-1))))))))))) 89 0 3) 89 1 5) 89 2 1) 89 3 2)))))))) 100 0 (-1)))))) 102 0 10 (-1)))))))))))) 2 0 4 (-1))))))))))))))))) 137 0 115) 137 1 99) 137 2 111) 137 3 114) 137 4 101) 137 5 32) 137 6 98) 137 7 97) 137 8 114) 137 9 32) 137 10 112) 137 11 97) 137 12 121) 137 13 32) 137 14 104) 137 15 111) 137 16 115) 137 17 116) 137 18 32) 137 19 97) 137 20 110) 137 21 100) 137 22 32) 137 23 111) 137 24 114) 137 25 32) 137 26 110) 137 27 111) 137 28 116) 137 29 32) 137 30 105) 137 31 102) 137 32 32) 137 33 115) 137 34 117) 137 35 109) 137 36 32) 137 37 109) 137 38 97) 137 39 120) 137 40 32) 137 41 109) 137 42 105) 137 43 110) 137 44 32) 137 45 99) 137 46 111) 137 47 117) 137 48 110) 137 49 116) 137 50 32) 137 51 108) 137 52 97) 137 53 110) 137 54 100) 137 55 32) 137 56 100) 137 57 97) 137 58 121) 137 59 32) 137 60 102) 137 61 97) 137 62 114) 137 63 101) 137 64 32) 137 65 99) 137 66 111) 137 67 109) 137 68 101) 137 69 32) 137 70 104) 137 71 111) 137 72 109) 137 73 101) 137 74 32) 137 75 98) 137 76 114) 137 77 97) 137 78 110) 137 79 99) 137 80 104) 137 81 32) 137 82 97) 137 83 103) 137 84 101) 137 85 32) 137 86 109) 137 87 101) 137 88 97) 137 89 110) 137 90 115) 137 91 32) 137 92 99) 137 93 97) 137 94 110) 137 95 32) 137 96 114) 137 97 101) 137 98 103) 137 99 114) 137 100 101) 137 101 116) 137 102 32) 137 103 109) 137 104 105) 137 105 108) 137 106 101) 137 107 115) 137 108 32) 137 109 116) 137 110 105) 137 111 109) 137 112 101) 137 113 115) 137 114 32) 137 115 108) 137 116 97) 137 117 115) 137 118 116) 137 119 32) 137 120 112) 137 121 101) 137 122 111) 137 123 112) 137 124 108) 137 125 101) 137 126 32) 137 127 109) 137 128 105) 137 129 110) 137 130 101) 137 131 32) 123 24 (-1))))))) 142 0 (-1)) 142 1 (-1)) 142 2 (-1)) 142 3 (-1)) 142 4 (-1)) 142 5 (-1)) 142 6 (-1)) 142 7 (-1)) 142 8 (-1)) 142 9 (-1)) 142 10 (-1)) 142 11 (-1)) 142 12 (-1)) 142 13 (-1)))))))))))))))))))))) 123 81 (-1))))) 165 0 3) 165 1 5) 165 2 1) 123 87 2))))))))))))))))))) 183 0 (-1)) 183 1 (-1)) 183 2 (-1)) 183 3 (-1)) 142 0 (-1)) 142 5 (-1)) 142 6 (-1))) = kmix f kMx := by
  simp (disch := decide) only [kmix_up, kmix_zr, kmix_zm, kmix_fl2]
  rfl
theorem law_start {L : Nat} {f : Int → Int} (Q : Option km_V → km_Al → km_Mm → Prop) : km_GL M_L_law 0 [some (.inr (.inr (-2))), none, none, none, none, none, none] [] (km_Ap 0 L kR00) (kmix f kM00) Q ↔ km_GL M_L_law 23 [some (.inr (.inr (-2))), some (.inr (.inr 0)), some (.inr (.inr 123)), some (.inr (.inr 184)), some (.inl 0), none, none] [] (km_Ap 185 L kRx) (kmix f kMx) Q := by
  rw [ini_law, kMx_mix]
  rfl
def kRfin : km_Mm := (km_A0 (0, 40, 46, -1, -1) 0 0).2.2.2.1
theorem kq_up {R : km_Mm} {a i v b j : Int} (h : ¬ (b = a ∧ j = i)) (e : R b j = -1) : km_up R a i v b j = -1 := by
  unfold km_up
  split
  · split
    · next h1 h2 => exact absurd ⟨h1, h2⟩ h
    · exact e
  · exact e
theorem kq_rn {R : km_Mm} {k b j : Int} (e : R b j = -1) : km_Rn R k b j = -1 := by
  unfold km_Rn
  split
  · rfl
  · exact e
theorem kq_q {R : km_Mm} {k b j : Int} (h : b ≠ k) (e : R b j = -1) : km_Rq R k b j = -1 := by rw [kRq_o h]; exact e
theorem kRq_s {R : km_Mm} {k j : Int} : km_Rq R k k j = k + 1 + j := by unfold km_Rq; rw [if_pos rfl]
set_option maxRecDepth 100000 in
theorem kRx_m1 {b j : Int} (h3 : b ≠ 6 ∧ b ≠ 22 ∧ b ≠ 29 ∧ b ≠ 72 ∧ b ≠ 94 ∧ b ≠ 103) (h : (j < 0 ∨ 109 ≤ j) ∨ (b ≠ 0 ∧ b ≠ 3 ∧ b ≠ 5 ∧ b ≠ 19 ∧ b ≠ 37 ∧ b ≠ 40 ∧ b ≠ 46 ∧ b ≠ 52 ∧ b ≠ 59 ∧ b ≠ 69 ∧ b ≠ 85 ∧ b ≠ 100 ∧ b ≠ 113 ∧ b ≠ 123)) : kRx b j = -1 := by
  unfold kRx
  repeat (first | rfl | refine kq_rn ?_ | refine kq_q (by omega) ?_ | refine kq_up (by omega) ?_)
theorem kRfin_m1 {b j : Int} (h3 : b ≠ 6 ∧ b ≠ 22 ∧ b ≠ 29 ∧ b ≠ 72 ∧ b ≠ 94 ∧ b ≠ 103) (h : (j < 0 ∨ 109 ≤ j) ∨ (b ≠ 0 ∧ b ≠ 3 ∧ b ≠ 5 ∧ b ≠ 19 ∧ b ≠ 37 ∧ b ≠ 40 ∧ b ≠ 46 ∧ b ≠ 52 ∧ b ≠ 59 ∧ b ≠ 69 ∧ b ≠ 85 ∧ b ≠ 100 ∧ b ≠ 113 ∧ b ≠ 123)) : kRfin b j = -1 := by
  have t3 : ∀ x : Fin 185, km_kdL.getD x.val (-2) = 3 → (x.val = 6 ∨ x.val = 22 ∨ x.val = 29 ∨ x.val = 72 ∨ x.val = 94 ∨ x.val = 103) := by decide +kernel
  have to : ∀ x : Fin 185, ((x.val ≠ 0 ∧ x.val ≠ 3 ∧ x.val ≠ 5 ∧ x.val ≠ 19 ∧ x.val ≠ 37 ∧ x.val ≠ 40 ∧ x.val ≠ 46 ∧ x.val ≠ 52 ∧ x.val ≠ 59 ∧ x.val ≠ 69 ∧ x.val ≠ 85 ∧ x.val ≠ 100 ∧ x.val ≠ 113 ∧ x.val ≠ 123) → km_rfL.getD x.val [] = []) ∧ (km_rfL.getD x.val []).length ≤ 109 := by decide +kernel
  have l1 : km_kdL.length = 185 := by decide +kernel
  have l2 : km_rfL.length ≤ 185 := by decide +kernel
  show (if b = 0 ∧ j = 2 then (40 : Int) else if b = 0 ∧ j = 3 then 46 else if b = 37 ∧ j = 1 then -1 else if b = 69 ∧ j = 6 then -1 else if 0 ≤ b ∧ km_kdL.getD b.toNat (-2) = 3 then b + 1 + j else if 0 ≤ b ∧ 0 ≤ j then (km_rfL.getD b.toNat []).getD j.toNat (-1) else -1) = -1
  rw [if_neg (show ¬ (b = 0 ∧ j = 2) by omega), if_neg (show ¬ (b = 0 ∧ j = 3) by omega)]
  split
  · rfl
  split
  · rfl
  split
  · next w =>
    obtain ⟨w0, w1⟩ := w
    by_cases c : b < 185
    · have t9 := t3 ⟨b.toNat, by omega⟩ w1
      dsimp only at t9
      omega
    · rw [kgd _ _ (by omega)] at w1; cases w1
  split
  · next w =>
    obtain ⟨w0, w1⟩ := w
    by_cases c : b < 185
    · obtain ⟨u1, u2⟩ := to ⟨b.toNat, by omega⟩
      dsimp only at u1 u2
      rcases h with h | h
      · rw [kgd _ _ (by omega)]
      · rw [u1 (by omega)]
        rfl
    · rw [kgd _ _ (show km_rfL.length ≤ b.toNat by omega)]
      rfl
  · rfl
theorem kRx_o0 : ∀ j : Fin 109, kRx 0 (j.val : Int) = kRfin 0 (j.val : Int) := by decide +kernel
theorem kRx_o3 : ∀ j : Fin 109, kRx 3 (j.val : Int) = kRfin 3 (j.val : Int) := by decide +kernel
theorem kRx_o5 : ∀ j : Fin 109, kRx 5 (j.val : Int) = kRfin 5 (j.val : Int) := by decide +kernel
theorem kRx_o19 : ∀ j : Fin 109, kRx 19 (j.val : Int) = kRfin 19 (j.val : Int) := by decide +kernel
theorem kRx_o37 : ∀ j : Fin 109, kRx 37 (j.val : Int) = kRfin 37 (j.val : Int) := by decide +kernel
theorem kRx_o40 : ∀ j : Fin 109, kRx 40 (j.val : Int) = kRfin 40 (j.val : Int) := by decide +kernel
theorem kRx_o46 : ∀ j : Fin 109, kRx 46 (j.val : Int) = kRfin 46 (j.val : Int) := by decide +kernel
theorem kRx_o52 : ∀ j : Fin 109, kRx 52 (j.val : Int) = kRfin 52 (j.val : Int) := by decide +kernel
theorem kRx_o59 : ∀ j : Fin 109, kRx 59 (j.val : Int) = kRfin 59 (j.val : Int) := by decide +kernel
theorem kRx_o69 : ∀ j : Fin 109, kRx 69 (j.val : Int) = kRfin 69 (j.val : Int) := by decide +kernel
theorem kRx_o85 : ∀ j : Fin 109, kRx 85 (j.val : Int) = kRfin 85 (j.val : Int) := by decide +kernel
theorem kRx_o100 : ∀ j : Fin 109, kRx 100 (j.val : Int) = kRfin 100 (j.val : Int) := by decide +kernel
theorem kRx_o113 : ∀ j : Fin 109, kRx 113 (j.val : Int) = kRfin 113 (j.val : Int) := by decide +kernel
theorem kRx_o123 : ∀ j : Fin 109, kRx 123 (j.val : Int) = kRfin 123 (j.val : Int) := by decide +kernel
set_option maxRecDepth 100000 in
theorem kRx_k6 (j : Int) : kRx 6 j = kRfin 6 j := by
  have e : kRfin 6 j = 6 + 1 + j := rfl
  rw [e]
  unfold kRx
  simp (disch := decide) only [km_up_o, kRn_o, kRq_o, kRq_s]
set_option maxRecDepth 100000 in
theorem kRx_k22 (j : Int) : kRx 22 j = kRfin 22 j := by
  have e : kRfin 22 j = 22 + 1 + j := rfl
  rw [e]
  unfold kRx
  simp (disch := decide) only [km_up_o, kRn_o, kRq_o, kRq_s]
set_option maxRecDepth 100000 in
theorem kRx_k29 (j : Int) : kRx 29 j = kRfin 29 j := by
  have e : kRfin 29 j = 29 + 1 + j := rfl
  rw [e]
  unfold kRx
  simp (disch := decide) only [km_up_o, kRn_o, kRq_o, kRq_s]
set_option maxRecDepth 100000 in
theorem kRx_k72 (j : Int) : kRx 72 j = kRfin 72 j := by
  have e : kRfin 72 j = 72 + 1 + j := rfl
  rw [e]
  unfold kRx
  simp (disch := decide) only [km_up_o, kRn_o, kRq_o, kRq_s]
set_option maxRecDepth 100000 in
theorem kRx_k94 (j : Int) : kRx 94 j = kRfin 94 j := by
  have e : kRfin 94 j = 94 + 1 + j := rfl
  rw [e]
  unfold kRx
  simp (disch := decide) only [km_up_o, kRn_o, kRq_o, kRq_s]
set_option maxRecDepth 100000 in
theorem kRx_k103 (j : Int) : kRx 103 j = kRfin 103 j := by
  have e : kRfin 103 j = 103 + 1 + j := rfl
  rw [e]
  unfold kRx
  simp (disch := decide) only [km_up_o, kRn_o, kRq_o, kRq_s]
theorem kRx_rf : kRx = kRfin := by
  funext b j
  by_cases k6 : b = 6
  · rw [k6]; exact kRx_k6 j
  by_cases k22 : b = 22
  · rw [k22]; exact kRx_k22 j
  by_cases k29 : b = 29
  · rw [k29]; exact kRx_k29 j
  by_cases k72 : b = 72
  · rw [k72]; exact kRx_k72 j
  by_cases k94 : b = 94
  · rw [k94]; exact kRx_k94 j
  by_cases k103 : b = 103
  · rw [k103]; exact kRx_k103 j
  have h3 : b ≠ 6 ∧ b ≠ 22 ∧ b ≠ 29 ∧ b ≠ 72 ∧ b ≠ 94 ∧ b ≠ 103 := ⟨k6, k22, k29, k72, k94, k103⟩
  by_cases jj : j < 0 ∨ 109 ≤ j
  · rw [kRx_m1 h3 (Or.inl jj), kRfin_m1 h3 (Or.inl jj)]
  have ej : ((j.toNat : Nat) : Int) = j := by omega
  by_cases o0 : b = 0
  · have t := kRx_o0 ⟨j.toNat, by omega⟩
    simp only [ej] at t
    rw [o0]; exact t
  by_cases o3 : b = 3
  · have t := kRx_o3 ⟨j.toNat, by omega⟩
    simp only [ej] at t
    rw [o3]; exact t
  by_cases o5 : b = 5
  · have t := kRx_o5 ⟨j.toNat, by omega⟩
    simp only [ej] at t
    rw [o5]; exact t
  by_cases o19 : b = 19
  · have t := kRx_o19 ⟨j.toNat, by omega⟩
    simp only [ej] at t
    rw [o19]; exact t
  by_cases o37 : b = 37
  · have t := kRx_o37 ⟨j.toNat, by omega⟩
    simp only [ej] at t
    rw [o37]; exact t
  by_cases o40 : b = 40
  · have t := kRx_o40 ⟨j.toNat, by omega⟩
    simp only [ej] at t
    rw [o40]; exact t
  by_cases o46 : b = 46
  · have t := kRx_o46 ⟨j.toNat, by omega⟩
    simp only [ej] at t
    rw [o46]; exact t
  by_cases o52 : b = 52
  · have t := kRx_o52 ⟨j.toNat, by omega⟩
    simp only [ej] at t
    rw [o52]; exact t
  by_cases o59 : b = 59
  · have t := kRx_o59 ⟨j.toNat, by omega⟩
    simp only [ej] at t
    rw [o59]; exact t
  by_cases o69 : b = 69
  · have t := kRx_o69 ⟨j.toNat, by omega⟩
    simp only [ej] at t
    rw [o69]; exact t
  by_cases o85 : b = 85
  · have t := kRx_o85 ⟨j.toNat, by omega⟩
    simp only [ej] at t
    rw [o85]; exact t
  by_cases o100 : b = 100
  · have t := kRx_o100 ⟨j.toNat, by omega⟩
    simp only [ej] at t
    rw [o100]; exact t
  by_cases o113 : b = 113
  · have t := kRx_o113 ⟨j.toNat, by omega⟩
    simp only [ej] at t
    rw [o113]; exact t
  by_cases o123 : b = 123
  · have t := kRx_o123 ⟨j.toNat, by omega⟩
    simp only [ej] at t
    rw [o123]; exact t
  have ho : b ≠ 0 ∧ b ≠ 3 ∧ b ≠ 5 ∧ b ≠ 19 ∧ b ≠ 37 ∧ b ≠ 40 ∧ b ≠ 46 ∧ b ≠ 52 ∧ b ≠ 59 ∧ b ≠ 69 ∧ b ≠ 85 ∧ b ≠ 100 ∧ b ≠ 113 ∧ b ≠ 123 := ⟨o0, o3, o5, o19, o37, o40, o46, o52, o59, o69, o85, o100, o113, o123⟩
  rw [kRx_m1 h3 (Or.inr ho), kRfin_m1 h3 (Or.inr ho)]
theorem kAp_A0 {L : Nat} : km_Ap 185 L kRx = km_A0 (L, 40, 46, -1, -1) 185 (km_s9 185) := by
  have l1 : km_kdL.length = 185 := by decide +kernel
  have l2 : km_lnL.length = 185 := by decide +kernel
  refine Prod.ext rfl (Prod.ext ?_ (Prod.ext ?_ (Prod.ext ?_ rfl)))
  · funext a
    show (if 0 ≤ a ∧ a < ((185 : Nat) : Int) then km_kdL.getD a.toNat (-2) else -2) = if 0 ≤ a then km_kdL.getD a.toNat (-2) else -2
    by_cases c : 0 ≤ a
    · rw [if_pos c]
      by_cases d : a < 185
      · rw [if_pos ⟨c, by omega⟩]
      · rw [if_neg (by omega), kgd _ _ (by omega)]
    · rw [if_neg c, if_neg (fun h => c h.1)]
  · funext a
    show (if 0 ≤ a ∧ a < ((185 : Nat) : Int) then km_lnL.getD a.toNat 0 else if a = -2 then (L : Int) else 0) = if 0 ≤ a then km_lnL.getD a.toNat 0 else if a = -2 then (L : Int) else 0
    by_cases c : 0 ≤ a
    · rw [if_pos c]
      by_cases d : a < 185
      · rw [if_pos ⟨c, by omega⟩]
      · rw [if_neg (show ¬ (0 ≤ a ∧ a < ((185 : Nat) : Int)) by omega), kgd _ _ (by omega), if_neg (by omega)]
    · rw [if_neg c, if_neg (fun h => c h.1)]
  · show kRx = _
    rw [kRx_rf]
    rfl

