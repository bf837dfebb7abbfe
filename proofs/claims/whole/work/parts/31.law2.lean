/-- feed -/
def x_o2 (I : x_S → Prop) : Prop := ∀ σ, I σ → ∀ a0 a1 a2 a3 a4 : Int, (-2147483648 ≤ a0 ∧ a0 ≤ 2147483647) → (-2147483648 ≤ a1 ∧ a1 ≤ 2147483647) → (-2147483648 ≤ a2 ∧ a2 ≤ 2147483647) → (-2147483648 ≤ a3 ∧ a3 ≤ 2147483647) → (-2147483648 ≤ a4 ∧ a4 ≤ 2147483647) → ∃ σ2, I σ2 ∧ x_agI 94 171 [xI a0, xI a1, xI a2, xI a3, xI a4] σ σ2
theorem x_ts2 : x_tst 5 0 = 2 := id rfl
/-- end -/
def x_o3 (I : x_S → Prop) : Prop := ∀ σ, I σ → ∀ a0 : Int, (-2147483648 ≤ a0 ∧ a0 ≤ 2147483647) → ∃ σ2, I σ2 ∧ x_agI 95 172 [xI a0] σ σ2
theorem x_ts3 : x_tst 5 1 = 3 := id rfl
/-- text -/
def x_o4 (I : x_S → Prop) : Prop := ∀ σ, I σ → ∃ σ2, I σ2 ∧ x_agI 96 174 [] σ σ2
theorem x_ts4 : x_tst 5 2 = 4 := id rfl
/-- fault -/
def x_o5 (I : x_S → Prop) : Prop := ∀ σ, I σ → ∀ a0 : Int, (-2147483648 ≤ a0 ∧ a0 ≤ 2147483647) → ∃ σ2, I σ2 ∧ x_agI 99 173 [xI a0] σ σ2
theorem x_ts5 : x_tst 5 3 = 5 := id rfl
/-- fork -/
def x_o6 (I : x_S → Prop) : Prop := ∀ σ, I σ → ∀ a0 a1 : Int, (-2147483648 ≤ a0 ∧ a0 ≤ 2147483647) → (-2147483648 ≤ a1 ∧ a1 ≤ 2147483647) → ∃ σ2, I σ2 ∧ x_agI 100 190 [xI a0, xI a1] σ σ2
theorem x_ts6 : x_tst 5 4 = 6 := id rfl
/-- best -/
def x_o7 (I : x_S → Prop) : Prop := ∀ σ, I σ → ∀ a0 : Int, (-2147483648 ≤ a0 ∧ a0 ≤ 2147483647) → ∃ σ2, I σ2 ∧ x_agJ 102 193 [xI a0] σ σ2
theorem x_ts7 : x_tst 5 5 = 7 := id rfl
/-- step -/
def x_o8 (I : x_S → Prop) : Prop := ∀ σ, I σ → ∀ a0 a1 : Int, (-2147483648 ≤ a0 ∧ a0 ≤ 2147483647) → (-2147483648 ≤ a1 ∧ a1 ≤ 2147483647) → ∃ σ2, I σ2 ∧ x_agI 108 208 [xI a0, xI a1] σ σ2
theorem x_ts8 : x_tst 5 6 = 8 := id rfl
/-- steps -/
def x_o9 (I : x_S → Prop) : Prop := ∀ σ, I σ → ∃ σ2, I σ2 ∧ x_agI 112 210 [] σ σ2
theorem x_ts9 : x_tst 5 7 = 9 := id rfl
/-- first -/
def x_o10 (I : x_S → Prop) : Prop := ∀ σ, I σ → ∀ a0 a1 : Int, (-2147483648 ≤ a0 ∧ a0 ≤ 2147483647) → (-2147483648 ≤ a1 ∧ a1 ≤ 2147483647) → ∃ σ2, I σ2 ∧ x_agI 114 212 [xI a0, xI a1] σ σ2
theorem x_ts10 : x_tst 5 8 = 10 := id rfl
/-- more -/
def x_o11 (I : x_S → Prop) : Prop := ∀ σ, I σ → ∀ a0 a1 : Int, (-2147483648 ≤ a0 ∧ a0 ≤ 2147483647) → (-2147483648 ≤ a1 ∧ a1 ≤ 2147483647) → ∃ σ2, I σ2 ∧ x_agJ 115 213 [xI a0, xI a1] σ σ2
theorem x_ts11 : x_tst 5 9 = 11 := id rfl
/-- ties -/
def x_o12 (I : x_S → Prop) : Prop := ∀ σ, I σ → ∀ a0 : Int, (-2147483648 ≤ a0 ∧ a0 ≤ 2147483647) → ∃ σ2, I σ2 ∧ x_agI 116 214 [xI a0] σ σ2
theorem x_ts12 : x_tst 5 10 = 12 := id rfl
/-- plan -/
def x_o13 (I : x_S → Prop) : Prop := ∀ σ, I σ → ∀ a0 a1 a2 : Int, (-2147483648 ≤ a0 ∧ a0 ≤ 2147483647) → (-2147483648 ≤ a1 ∧ a1 ≤ 2147483647) → (-2147483648 ≤ a2 ∧ a2 ≤ 2147483647) → ∃ σ2, I σ2 ∧ x_agI 117 215 [xI a0, xI a1, xI a2] σ σ2
theorem x_ts13 : x_tst 5 11 = 13 := id rfl
/-- plans -/
def x_o14 (I : x_S → Prop) : Prop := ∀ σ, I σ → ∀ a0 : Int, (-2147483648 ≤ a0 ∧ a0 ≤ 2147483647) → ∃ σ2, I σ2 ∧ x_agI 119 217 [xI a0] σ σ2
theorem x_ts14 : x_tst 5 12 = 14 := id rfl
/-- planned -/
def x_o15 (I : x_S → Prop) : Prop := ∀ σ, I σ → ∀ a0 a1 : Int, (-2147483648 ≤ a0 ∧ a0 ≤ 2147483647) → (-2147483648 ≤ a1 ∧ a1 ≤ 2147483647) → ∃ σ2, I σ2 ∧ x_agI 120 219 [xI a0, xI a1] σ σ2
theorem x_ts15 : x_tst 5 13 = 15 := id rfl
/-- judge -/
def x_o16 (I : x_S → Prop) : Prop := ∀ σ, I σ → ∃ σ2, I σ2 ∧ x_agI 121 223 [] σ σ2
theorem x_ts16 : x_tst 5 14 = 16 := id rfl
/-- cost -/
def x_o17 (I : x_S → Prop) : Prop := ∀ σ, I σ → ∀ a0 : Int, (-2147483648 ≤ a0 ∧ a0 ≤ 2147483647) → ∃ σ2, I σ2 ∧ x_agJ 122 225 [xI a0] σ σ2
theorem x_ts17 : x_tst 5 15 = 17 := id rfl
/-- within -/
def x_o18 (I : x_S → Prop) : Prop := ∀ σ, I σ → ∀ a0 : Int, (-2147483648 ≤ a0 ∧ a0 ≤ 2147483647) → ∃ σ2, I σ2 ∧ x_agI 127 244 [xI a0] σ σ2
theorem x_ts18 : x_tst 5 16 = 18 := id rfl
/-- reach -/
def x_o19 (I : x_S → Prop) : Prop := ∀ σ, I σ → ∀ a0 a1 : Int, (-2147483648 ≤ a0 ∧ a0 ≤ 2147483647) → (-2147483648 ≤ a1 ∧ a1 ≤ 2147483647) → ∃ σ2, I σ2 ∧ x_agI 132 245 [xI a0, xI a1] σ σ2
theorem x_ts19 : x_tst 5 17 = 19 := id rfl
/-- dead -/
def x_o20 (I : x_S → Prop) : Prop := ∀ σ, I σ → ∀ a0 a1 : Int, (-2147483648 ≤ a0 ∧ a0 ≤ 2147483647) → (-2147483648 ≤ a1 ∧ a1 ≤ 2147483647) → ∃ σ2, I σ2 ∧ x_agI 134 247 [xI a0, xI a1] σ σ2
theorem x_ts20 : x_tst 5 18 = 20 := id rfl
/-- worth -/
def x_o21 (I : x_S → Prop) : Prop := ∀ σ, I σ → ∀ a0 a1 a2 : Int, (-2147483648 ≤ a0 ∧ a0 ≤ 2147483647) → (-2147483648 ≤ a1 ∧ a1 ≤ 2147483647) → (-2147483648 ≤ a2 ∧ a2 ≤ 2147483647) → ∃ σ2, I σ2 ∧ x_agJ 135 248 [xI a0, xI a1, xI a2] σ σ2
theorem x_ts21 : x_tst 5 19 = 21 := id rfl
/-- unit -/
def x_o22 (I : x_S → Prop) : Prop := ∀ σ, I σ → ∀ a0 : Int, (-2147483648 ≤ a0 ∧ a0 ≤ 2147483647) → ∃ σ2, I σ2 ∧ x_agJ 136 249 [xI a0] σ σ2
theorem x_ts22 : x_tst 5 20 = 22 := id rfl
/-- joined -/
def x_o23 (I : x_S → Prop) : Prop := ∀ σ, I σ → ∃ σ2, I σ2 ∧ x_agI 149 253 [] σ σ2
theorem x_ts23 : x_tst 5 21 = 23 := id rfl
/-- costTo -/
def x_o24 (I : x_S → Prop) : Prop := ∀ σ, I σ → ∀ a0 : Int, (-2147483648 ≤ a0 ∧ a0 ≤ 2147483647) → ∃ σ2, I σ2 ∧ x_agI 128 228 [xI a0] σ σ2
theorem x_ts24 : x_tst 5 22 = 24 := id rfl
/-- take -/
def x_o25 (I : x_S → Prop) : Prop := ∀ σ, I σ → ∀ a0 : Int, (-2147483648 ≤ a0 ∧ a0 ≤ 2147483647) → ∃ σ2, I σ2 ∧ x_agI 129 229 [xI a0] σ σ2
theorem x_ts25 : x_tst 5 23 = 25 := id rfl
/-- gap -/
def x_o26 (I : x_S → Prop) : Prop := ∀ σ, I σ → ∀ a0 : Int, (-2147483648 ≤ a0 ∧ a0 ≤ 2147483647) → ∃ σ2, I σ2 ∧ x_agJ 131 230 [xI a0] σ σ2
theorem x_ts26 : x_tst 5 24 = 26 := id rfl
/-- know -/
def x_o27 (I : x_S → Prop) : Prop := ∀ σ, I σ → ∃ σ2, I σ2 ∧ x_agJ 137 231 [] σ σ2
theorem x_ts27 : x_tst 5 25 = 27 := id rfl
/-- sooner -/
def x_o28 (I : x_S → Prop) : Prop := ∀ σ, I σ → ∀ a0 : Int, (-2147483648 ≤ a0 ∧ a0 ≤ 2147483647) → ∃ σ2, I σ2 ∧ x_agJ 138 232 [xI a0] σ σ2
theorem x_ts28 : x_tst 5 26 = 28 := id rfl
/-- middle -/
def x_o29 (I : x_S → Prop) : Prop := ∀ σ, I σ → ∃ σ2, I σ2 ∧ x_agJ 140 233 [] σ σ2
theorem x_ts29 : x_tst 5 27 = 29 := id rfl
/-- late -/
def x_o30 (I : x_S → Prop) : Prop := ∀ σ, I σ → ∀ a0 : Int, (-2147483648 ≤ a0 ∧ a0 ≤ 2147483647) → ∃ σ2, I σ2 ∧ x_agJ 142 238 [xI a0] σ σ2
theorem x_ts30 : x_tst 5 28 = 30 := id rfl
/-- coin -/
def x_o31 (I : x_S → Prop) : Prop := ∀ σ, I σ → ∃ σ2, I σ2 ∧ x_agJ 143 240 [] σ σ2
theorem x_ts31 : x_tst 5 29 = 31 := id rfl
/-- ruin -/
def x_o32 (I : x_S → Prop) : Prop := ∀ σ, I σ → ∀ a0 : Int, (-2147483648 ≤ a0 ∧ a0 ≤ 2147483647) → ∃ σ2, I σ2 ∧ x_agJ 144 241 [xI a0] σ σ2
theorem x_ts32 : x_tst 5 30 = 32 := id rfl
/-- tail -/
def x_o33 (I : x_S → Prop) : Prop := ∀ σ, I σ → ∀ a0 : Int, (-2147483648 ≤ a0 ∧ a0 ≤ 2147483647) → ∃ σ2, I σ2 ∧ x_agJ 145 243 [xI a0] σ σ2
theorem x_ts33 : x_tst 5 31 = 33 := id rfl
/-- lose -/
def x_o34 (I : x_S → Prop) : Prop := ∀ σ, I σ → ∀ a0 : Int, (-2147483648 ≤ a0 ∧ a0 ≤ 2147483647) → ∃ σ2, I σ2 ∧ x_agJ 146 239 [xI a0] σ σ2
theorem x_ts34 : x_tst 5 32 = 34 := id rfl
/-- same -/
def x_o35 (I : x_S → Prop) : Prop := ∀ σ, I σ → ∀ a0 a1 : Int, (-2147483648 ≤ a0 ∧ a0 ≤ 2147483647) → (-2147483648 ≤ a1 ∧ a1 ≤ 2147483647) → ∃ σ2, I σ2 ∧ x_agI 147 250 [xI a0, xI a1] σ σ2
theorem x_ts35 : x_tst 5 33 = 35 := id rfl
/-- kinds -/
def x_o36 (I : x_S → Prop) : Prop := ∀ σ, I σ → ∃ σ2, I σ2 ∧ x_agI 148 252 [] σ σ2
theorem x_ts36 : x_tst 5 34 = 36 := id rfl
/-- edge -/
def x_o37 (I : x_S → Prop) : Prop := ∀ σ, I σ → ∀ a0 a1 a2 : Int, (-2147483648 ≤ a0 ∧ a0 ≤ 2147483647) → (-2147483648 ≤ a1 ∧ a1 ≤ 2147483647) → (-2147483648 ≤ a2 ∧ a2 ≤ 2147483647) → ∃ σ2, I σ2 ∧ x_agI 150 256 [xI a0, xI a1, xI a2] σ σ2
theorem x_ts37 : x_tst 5 35 = 37 := id rfl
/-- rise -/
def x_o38 (I : x_S → Prop) : Prop := ∀ σ, I σ → ∀ a0 : Int, (-2147483648 ≤ a0 ∧ a0 ≤ 2147483647) → ∃ σ2, I σ2 ∧ x_agI 153 259 [xI a0] σ σ2
theorem x_ts38 : x_tst 5 36 = 38 := id rfl
/-- move -/
def x_o39 (I : x_S → Prop) : Prop := ∀ σ, I σ → ∀ a0 a1 a2 a3 : Int, (-2147483648 ≤ a0 ∧ a0 ≤ 2147483647) → (-2147483648 ≤ a1 ∧ a1 ≤ 2147483647) → (-2147483648 ≤ a2 ∧ a2 ≤ 2147483647) → (-2147483648 ≤ a3 ∧ a3 ≤ 2147483647) → ∃ σ2, I σ2 ∧ x_agI 154 260 [xI a0, xI a1, xI a2, xI a3] σ σ2
theorem x_ts39 : x_tst 5 37 = 39 := id rfl
/-- set -/
def x_o40 (I : x_S → Prop) : Prop := ∀ σ, I σ → ∀ a0 a1 a2 : Int, (-2147483648 ≤ a0 ∧ a0 ≤ 2147483647) → (-2147483648 ≤ a1 ∧ a1 ≤ 2147483647) → (-2147483648 ≤ a2 ∧ a2 ≤ 2147483647) → ∃ σ2, I σ2 ∧ x_agI 155 261 [xI a0, xI a1, xI a2] σ σ2
theorem x_ts40 : x_tst 5 38 = 40 := id rfl
/-- go -/
def x_o41 (I : x_S → Prop) : Prop := ∀ σ, I σ → ∀ a0 : Int, (-2147483648 ≤ a0 ∧ a0 ≤ 2147483647) → ∃ σ2, I σ2 ∧ x_agI 156 262 [xI a0] σ σ2
theorem x_ts41 : x_tst 5 39 = 41 := id rfl
/-- now -/
def x_o42 (I : x_S → Prop) : Prop := ∀ σ, I σ → ∀ a0 : Int, (-2147483648 ≤ a0 ∧ a0 ≤ 2147483647) → ∃ σ2, I σ2 ∧ x_agI 157 263 [xI a0] σ σ2
theorem x_ts42 : x_tst 5 40 = 42 := id rfl
/-- again -/
def x_o43 (I : x_S → Prop) : Prop := ∀ σ, I σ → ∃ σ2, I σ2 ∧ x_agI 158 264 [] σ σ2
theorem x_ts43 : x_tst 5 41 = 43 := id rfl
/-- run -/
def x_o44 (I : x_S → Prop) : Prop := ∀ σ, I σ → ∀ a0 : Int, (-2147483648 ≤ a0 ∧ a0 ≤ 2147483647) → ∃ σ2, I σ2 ∧ x_agI 159 265 [xI a0] σ σ2
theorem x_ts44 : x_tst 5 42 = 44 := id rfl
/-- ran -/
def x_o45 (I : x_S → Prop) : Prop := ∀ σ, I σ → ∃ σ2, I σ2 ∧ x_agI 160 266 [] σ σ2
theorem x_ts45 : x_tst 5 43 = 45 := id rfl
/-- count -/
def x_o46 (I : x_S → Prop) : Prop := ∀ σ, I σ → ∀ a0 : Int, (-2147483648 ≤ a0 ∧ a0 ≤ 2147483647) → ∃ σ2, I σ2 ∧ x_agI 101 267 [xI a0] σ σ2
theorem x_ts46 : x_tst 5 44 = 46 := id rfl
/-- keep -/
def x_o47 (I : x_S → Prop) : Prop := ∀ σ, I σ → ∀ a0 : Int, (-2147483648 ≤ a0 ∧ a0 ≤ 2147483647) → ∃ σ2, I σ2 ∧ x_agI 161 168 [xI a0] σ σ2
theorem x_ts47 : x_tst 5 45 = 47 := id rfl
/-- back -/
def x_o48 (I : x_S → Prop) : Prop := ∀ σ, I σ → ∀ a0 : Int, (-2147483648 ≤ a0 ∧ a0 ≤ 2147483647) → ∃ σ2, I σ2 ∧ x_agI 162 170 [xI a0] σ σ2
theorem x_ts48 : x_tst 5 46 = 48 := id rfl
/-- row -/
def x_o49 (I : x_S → Prop) : Prop := ∀ σ, I σ → ∀ a0 a1 a2 : Int, (-2147483648 ≤ a0 ∧ a0 ≤ 2147483647) → (-2147483648 ≤ a1 ∧ a1 ≤ 2147483647) → (-2147483648 ≤ a2 ∧ a2 ≤ 2147483647) → ∃ σ2, I σ2 ∧ x_agI 163 268 [xI a0, xI a1, xI a2] σ σ2
theorem x_ts49 : x_tst 5 47 = 49 := id rfl
/-- write -/
def x_o50 (I : x_S → Prop) : Prop := ∀ σ, I σ → ∀ a0 a1 a2 : Int, (-2147483648 ≤ a0 ∧ a0 ≤ 2147483647) → (-2147483648 ≤ a1 ∧ a1 ≤ 2147483647) → (-9223372036854775808 ≤ a2 ∧ a2 ≤ 9223372036854775807) → ∃ σ2, I σ2 ∧ x_agI 164 269 [xI a0, xI a1, xJ a2] σ σ2
theorem x_ts50 : x_tst 5 48 = 50 := id rfl
/-- paste -/
def x_o51 (I : x_S → Prop) : Prop := ∀ σ, I σ → ∀ a0 a1 a2 a3 a4 : Int, (-2147483648 ≤ a0 ∧ a0 ≤ 2147483647) → (-2147483648 ≤ a1 ∧ a1 ≤ 2147483647) → (-2147483648 ≤ a2 ∧ a2 ≤ 2147483647) → (-2147483648 ≤ a3 ∧ a3 ≤ 2147483647) → (-2147483648 ≤ a4 ∧ a4 ≤ 2147483647) → ∃ σ2, I σ2 ∧ x_agI 165 271 [xI a0, xI a1, xI a2, xI a3, xI a4] σ σ2
theorem x_ts51 : x_tst 5 49 = 51 := id rfl
theorem x_i64a (z : Int64) : -9223372036854775808 ≤ z.toInt := Int64.le_toInt z
theorem x_i64b (z : Int64) : z.toInt ≤ 9223372036854775807 := Int64.toInt_le z
theorem x_i32a (z : Int32) : -2147483648 ≤ z.toInt := Int32.le_toInt z
theorem x_i32b (z : Int32) : z.toInt ≤ 2147483647 := Int32.toInt_le z
theorem x_tsd {z : Int} (h : ¬ (0 ≤ z ∧ z < 50)) : x_tst 5 z = 52 := by
  show (if (0 : Int) ≤ z ∧ z < 0 + ((50 : Nat) : Int) then _ else 52) = 52
  rw [if_neg]
  intro q
  exact h ⟨q.1, by have := q.2; omega⟩
set_option maxHeartbeats 4000000 in
theorem x_lcase {I : x_S → Prop} (h2 : x_o2 I) (h3 : x_o3 I) (h4 : x_o4 I) (h5 : x_o5 I) (h6 : x_o6 I) (h7 : x_o7 I) (h8 : x_o8 I) (h9 : x_o9 I) (h10 : x_o10 I) (h11 : x_o11 I) (h12 : x_o12 I) (h13 : x_o13 I) (h14 : x_o14 I) (h15 : x_o15 I) (h16 : x_o16 I) (h17 : x_o17 I) (h18 : x_o18 I) (h19 : x_o19 I) (h20 : x_o20 I) (h21 : x_o21 I) (h22 : x_o22 I) (h23 : x_o23 I) (h24 : x_o24 I) (h25 : x_o25 I) (h26 : x_o26 I) (h27 : x_o27 I) (h28 : x_o28 I) (h29 : x_o29 I) (h30 : x_o30 I) (h31 : x_o31 I) (h32 : x_o32 I) (h33 : x_o33 I) (h34 : x_o34 I) (h35 : x_o35 I) (h36 : x_o36 I) (h37 : x_o37 I) (h38 : x_o38 I) (h39 : x_o39 I) (h40 : x_o40 I) (h41 : x_o41 I) (h42 : x_o42 I) (h43 : x_o43 I) (h44 : x_o44 I) (h45 : x_o45 I) (h46 : x_o46 I) (h47 : x_o47 I) (h48 : x_o48 I) (h49 : x_o49 I) (h50 : x_o50 I) (h51 : x_o51 I) {i z : Int} {σ : x_S} (hI : I σ) (h0 : 0 ≤ i) (h1 : i + 6 ≤ σ 100 1 0) (hv : ∀ z, -2147483648 ≤ σ 100 0 z ∧ σ 100 0 z ≤ 2147483647) :
    ∃ σ2, I σ2 ∧ ∀ Q : Option x_V → x_S → Prop, x_Wp 1000 272 (x_blk 272 52) [xR 100 0, xR 0 0, xR 50 0, xI i] [] σ2 Q → x_Wp 1000 272 (x_blk 272 (x_tst 5 z)) [xR 100 0, xR 0 0, xR 50 0, xI i] [] σ Q := by
  by_cases e2 : z = 0
  · subst e2
    rw [x_ts2]
    obtain ⟨σ2, hi2, ha⟩ := h2 σ hI (σ 100 0 (i + 1)) (σ 100 0 (i + 2)) (σ 100 0 (i + 3)) (σ 100 0 (i + 4)) (σ 100 0 (i + 5)) (hv _) (hv _) (hv _) (hv _) (hv _)
    exact ⟨σ2, hi2, fun Q H => x_lc2 h0 h1 hv ha H⟩
  by_cases e3 : z = 1
  · subst e3
    rw [x_ts3]
    obtain ⟨σ2, hi2, ha⟩ := h3 σ hI (σ 100 0 (i + 1)) (hv _)
    exact ⟨σ2, hi2, fun Q H => x_lc3 h0 h1 hv ha H⟩
  by_cases e4 : z = 2
  · subst e4
    rw [x_ts4]
    obtain ⟨σ2, hi2, ha⟩ := h4 σ hI  
    exact ⟨σ2, hi2, fun Q H => x_lc4 h0 h1 hv ha H⟩
  by_cases e5 : z = 3
  · subst e5
    rw [x_ts5]
    obtain ⟨σ2, hi2, ha⟩ := h5 σ hI (σ 100 0 (i + 1)) (hv _)
    exact ⟨σ2, hi2, fun Q H => x_lc5 h0 h1 hv ha H⟩
  by_cases e6 : z = 4
  · subst e6
    rw [x_ts6]
    obtain ⟨σ2, hi2, ha⟩ := h6 σ hI (σ 100 0 (i + 1)) (σ 100 0 (i + 2)) (hv _) (hv _)
    exact ⟨σ2, hi2, fun Q H => x_lc6 h0 h1 hv ha H⟩
  by_cases e7 : z = 5
  · subst e7
    rw [x_ts7]
    obtain ⟨σ2, hi2, ha⟩ := h7 σ hI (σ 100 0 (i + 1)) (hv _)
    exact ⟨σ2, hi2, fun Q H => x_lc7 h0 h1 hv ha H⟩
  by_cases e8 : z = 6
  · subst e8
    rw [x_ts8]
    obtain ⟨σ2, hi2, ha⟩ := h8 σ hI (σ 100 0 (i + 1)) (σ 100 0 (i + 2)) (hv _) (hv _)
    exact ⟨σ2, hi2, fun Q H => x_lc8 h0 h1 hv ha H⟩
  by_cases e9 : z = 7
  · subst e9
    rw [x_ts9]
    obtain ⟨σ2, hi2, ha⟩ := h9 σ hI  
    exact ⟨σ2, hi2, fun Q H => x_lc9 h0 h1 hv ha H⟩
  by_cases e10 : z = 8
  · subst e10
    rw [x_ts10]
    obtain ⟨σ2, hi2, ha⟩ := h10 σ hI (σ 100 0 (i + 1)) (σ 100 0 (i + 2)) (hv _) (hv _)
    exact ⟨σ2, hi2, fun Q H => x_lc10 h0 h1 hv ha H⟩
  by_cases e11 : z = 9
  · subst e11
    rw [x_ts11]
    obtain ⟨σ2, hi2, ha⟩ := h11 σ hI (σ 100 0 (i + 1)) (σ 100 0 (i + 2)) (hv _) (hv _)
    exact ⟨σ2, hi2, fun Q H => x_lc11 h0 h1 hv ha H⟩
  by_cases e12 : z = 10
  · subst e12
    rw [x_ts12]
    obtain ⟨σ2, hi2, ha⟩ := h12 σ hI (σ 100 0 (i + 1)) (hv _)
    exact ⟨σ2, hi2, fun Q H => x_lc12 h0 h1 hv ha H⟩
  by_cases e13 : z = 11
  · subst e13
    rw [x_ts13]
    obtain ⟨σ2, hi2, ha⟩ := h13 σ hI (σ 100 0 (i + 1)) (σ 100 0 (i + 2)) (σ 100 0 (i + 3)) (hv _) (hv _) (hv _)
    exact ⟨σ2, hi2, fun Q H => x_lc13 h0 h1 hv ha H⟩
  by_cases e14 : z = 12
  · subst e14
    rw [x_ts14]
    obtain ⟨σ2, hi2, ha⟩ := h14 σ hI (σ 100 0 (i + 1)) (hv _)
    exact ⟨σ2, hi2, fun Q H => x_lc14 h0 h1 hv ha H⟩
  by_cases e15 : z = 13
  · subst e15
    rw [x_ts15]
    obtain ⟨σ2, hi2, ha⟩ := h15 σ hI (σ 100 0 (i + 1)) (σ 100 0 (i + 2)) (hv _) (hv _)
    exact ⟨σ2, hi2, fun Q H => x_lc15 h0 h1 hv ha H⟩
  by_cases e16 : z = 14
  · subst e16
    rw [x_ts16]
    obtain ⟨σ2, hi2, ha⟩ := h16 σ hI  
    exact ⟨σ2, hi2, fun Q H => x_lc16 h0 h1 hv ha H⟩
  by_cases e17 : z = 15
  · subst e17
    rw [x_ts17]
    obtain ⟨σ2, hi2, ha⟩ := h17 σ hI (σ 100 0 (i + 1)) (hv _)
    exact ⟨σ2, hi2, fun Q H => x_lc17 h0 h1 hv ha H⟩
  by_cases e18 : z = 16
  · subst e18
    rw [x_ts18]
    obtain ⟨σ2, hi2, ha⟩ := h18 σ hI (σ 100 0 (i + 1)) (hv _)
    exact ⟨σ2, hi2, fun Q H => x_lc18 h0 h1 hv ha H⟩
  by_cases e19 : z = 17
  · subst e19
    rw [x_ts19]
    obtain ⟨σ2, hi2, ha⟩ := h19 σ hI (σ 100 0 (i + 1)) (σ 100 0 (i + 2)) (hv _) (hv _)
    exact ⟨σ2, hi2, fun Q H => x_lc19 h0 h1 hv ha H⟩
  by_cases e20 : z = 18
  · subst e20
    rw [x_ts20]
    obtain ⟨σ2, hi2, ha⟩ := h20 σ hI (σ 100 0 (i + 1)) (σ 100 0 (i + 2)) (hv _) (hv _)
    exact ⟨σ2, hi2, fun Q H => x_lc20 h0 h1 hv ha H⟩
  by_cases e21 : z = 19
  · subst e21
    rw [x_ts21]
    obtain ⟨σ2, hi2, ha⟩ := h21 σ hI (σ 100 0 (i + 1)) (σ 100 0 (i + 2)) (σ 100 0 (i + 3)) (hv _) (hv _) (hv _)
    exact ⟨σ2, hi2, fun Q H => x_lc21 h0 h1 hv ha H⟩
  by_cases e22 : z = 20
  · subst e22
    rw [x_ts22]
    obtain ⟨σ2, hi2, ha⟩ := h22 σ hI (σ 100 0 (i + 1)) (hv _)
    exact ⟨σ2, hi2, fun Q H => x_lc22 h0 h1 hv ha H⟩
  by_cases e23 : z = 21
  · subst e23
    rw [x_ts23]
    obtain ⟨σ2, hi2, ha⟩ := h23 σ hI  
    exact ⟨σ2, hi2, fun Q H => x_lc23 h0 h1 hv ha H⟩
  by_cases e24 : z = 22
  · subst e24
    rw [x_ts24]
    obtain ⟨σ2, hi2, ha⟩ := h24 σ hI (σ 100 0 (i + 1)) (hv _)
    exact ⟨σ2, hi2, fun Q H => x_lc24 h0 h1 hv ha H⟩
  by_cases e25 : z = 23
  · subst e25
    rw [x_ts25]
    obtain ⟨σ2, hi2, ha⟩ := h25 σ hI (σ 100 0 (i + 1)) (hv _)
    exact ⟨σ2, hi2, fun Q H => x_lc25 h0 h1 hv ha H⟩
  by_cases e26 : z = 24
  · subst e26
    rw [x_ts26]
    obtain ⟨σ2, hi2, ha⟩ := h26 σ hI (σ 100 0 (i + 1)) (hv _)
    exact ⟨σ2, hi2, fun Q H => x_lc26 h0 h1 hv ha H⟩
  by_cases e27 : z = 25
  · subst e27
    rw [x_ts27]
    obtain ⟨σ2, hi2, ha⟩ := h27 σ hI  
    exact ⟨σ2, hi2, fun Q H => x_lc27 h0 h1 hv ha H⟩
  by_cases e28 : z = 26
  · subst e28
    rw [x_ts28]
    obtain ⟨σ2, hi2, ha⟩ := h28 σ hI (σ 100 0 (i + 1)) (hv _)
    exact ⟨σ2, hi2, fun Q H => x_lc28 h0 h1 hv ha H⟩
  by_cases e29 : z = 27
  · subst e29
    rw [x_ts29]
    obtain ⟨σ2, hi2, ha⟩ := h29 σ hI  
    exact ⟨σ2, hi2, fun Q H => x_lc29 h0 h1 hv ha H⟩
  by_cases e30 : z = 28
  · subst e30
    rw [x_ts30]
    obtain ⟨σ2, hi2, ha⟩ := h30 σ hI (σ 100 0 (i + 1)) (hv _)
    exact ⟨σ2, hi2, fun Q H => x_lc30 h0 h1 hv ha H⟩
  by_cases e31 : z = 29
  · subst e31
    rw [x_ts31]
    obtain ⟨σ2, hi2, ha⟩ := h31 σ hI  
    exact ⟨σ2, hi2, fun Q H => x_lc31 h0 h1 hv ha H⟩
  by_cases e32 : z = 30
  · subst e32
    rw [x_ts32]
    obtain ⟨σ2, hi2, ha⟩ := h32 σ hI (σ 100 0 (i + 1)) (hv _)
    exact ⟨σ2, hi2, fun Q H => x_lc32 h0 h1 hv ha H⟩
  by_cases e33 : z = 31
  · subst e33
    rw [x_ts33]
    obtain ⟨σ2, hi2, ha⟩ := h33 σ hI (σ 100 0 (i + 1)) (hv _)
    exact ⟨σ2, hi2, fun Q H => x_lc33 h0 h1 hv ha H⟩
  by_cases e34 : z = 32
  · subst e34
    rw [x_ts34]
    obtain ⟨σ2, hi2, ha⟩ := h34 σ hI (σ 100 0 (i + 1)) (hv _)
    exact ⟨σ2, hi2, fun Q H => x_lc34 h0 h1 hv ha H⟩
  by_cases e35 : z = 33
  · subst e35
    rw [x_ts35]
    obtain ⟨σ2, hi2, ha⟩ := h35 σ hI (σ 100 0 (i + 1)) (σ 100 0 (i + 2)) (hv _) (hv _)
    exact ⟨σ2, hi2, fun Q H => x_lc35 h0 h1 hv ha H⟩
  by_cases e36 : z = 34
  · subst e36
    rw [x_ts36]
    obtain ⟨σ2, hi2, ha⟩ := h36 σ hI  
    exact ⟨σ2, hi2, fun Q H => x_lc36 h0 h1 hv ha H⟩
  by_cases e37 : z = 35
  · subst e37
    rw [x_ts37]
    obtain ⟨σ2, hi2, ha⟩ := h37 σ hI (σ 100 0 (i + 1)) (σ 100 0 (i + 2)) (σ 100 0 (i + 3)) (hv _) (hv _) (hv _)
    exact ⟨σ2, hi2, fun Q H => x_lc37 h0 h1 hv ha H⟩
  by_cases e38 : z = 36
  · subst e38
    rw [x_ts38]
    obtain ⟨σ2, hi2, ha⟩ := h38 σ hI (σ 100 0 (i + 1)) (hv _)
    exact ⟨σ2, hi2, fun Q H => x_lc38 h0 h1 hv ha H⟩
  by_cases e39 : z = 37
  · subst e39
    rw [x_ts39]
    obtain ⟨σ2, hi2, ha⟩ := h39 σ hI (σ 100 0 (i + 1)) (σ 100 0 (i + 2)) (σ 100 0 (i + 3)) (σ 100 0 (i + 4)) (hv _) (hv _) (hv _) (hv _)
    exact ⟨σ2, hi2, fun Q H => x_lc39 h0 h1 hv ha H⟩
  by_cases e40 : z = 38
  · subst e40
    rw [x_ts40]
    obtain ⟨σ2, hi2, ha⟩ := h40 σ hI (σ 100 0 (i + 1)) (σ 100 0 (i + 2)) (σ 100 0 (i + 3)) (hv _) (hv _) (hv _)
    exact ⟨σ2, hi2, fun Q H => x_lc40 h0 h1 hv ha H⟩
  by_cases e41 : z = 39
  · subst e41
    rw [x_ts41]
    obtain ⟨σ2, hi2, ha⟩ := h41 σ hI (σ 100 0 (i + 1)) (hv _)
    exact ⟨σ2, hi2, fun Q H => x_lc41 h0 h1 hv ha H⟩
  by_cases e42 : z = 40
  · subst e42
    rw [x_ts42]
    obtain ⟨σ2, hi2, ha⟩ := h42 σ hI (σ 100 0 (i + 1)) (hv _)
    exact ⟨σ2, hi2, fun Q H => x_lc42 h0 h1 hv ha H⟩
  by_cases e43 : z = 41
  · subst e43
    rw [x_ts43]
    obtain ⟨σ2, hi2, ha⟩ := h43 σ hI  
    exact ⟨σ2, hi2, fun Q H => x_lc43 h0 h1 hv ha H⟩
  by_cases e44 : z = 42
  · subst e44
    rw [x_ts44]
    obtain ⟨σ2, hi2, ha⟩ := h44 σ hI (σ 100 0 (i + 1)) (hv _)
    exact ⟨σ2, hi2, fun Q H => x_lc44 h0 h1 hv ha H⟩
  by_cases e45 : z = 43
  · subst e45
    rw [x_ts45]
    obtain ⟨σ2, hi2, ha⟩ := h45 σ hI  
    exact ⟨σ2, hi2, fun Q H => x_lc45 h0 h1 hv ha H⟩
  by_cases e46 : z = 44
  · subst e46
    rw [x_ts46]
    obtain ⟨σ2, hi2, ha⟩ := h46 σ hI (σ 100 0 (i + 1)) (hv _)
    exact ⟨σ2, hi2, fun Q H => x_lc46 h0 h1 hv ha H⟩
  by_cases e47 : z = 45
  · subst e47
    rw [x_ts47]
    obtain ⟨σ2, hi2, ha⟩ := h47 σ hI (σ 100 0 (i + 1)) (hv _)
    exact ⟨σ2, hi2, fun Q H => x_lc47 h0 h1 hv ha H⟩
  by_cases e48 : z = 46
  · subst e48
    rw [x_ts48]
    obtain ⟨σ2, hi2, ha⟩ := h48 σ hI (σ 100 0 (i + 1)) (hv _)
    exact ⟨σ2, hi2, fun Q H => x_lc48 h0 h1 hv ha H⟩
  by_cases e49 : z = 47
  · subst e49
    rw [x_ts49]
    obtain ⟨σ2, hi2, ha⟩ := h49 σ hI (σ 100 0 (i + 1)) (σ 100 0 (i + 2)) (σ 100 0 (i + 3)) (hv _) (hv _) (hv _)
    exact ⟨σ2, hi2, fun Q H => x_lc49 h0 h1 hv ha H⟩
  by_cases e50 : z = 48
  · subst e50
    rw [x_ts50]
    obtain ⟨σ2, hi2, ha⟩ := h50 σ hI (σ 100 0 (i + 1)) (σ 100 0 (i + 2)) (x_lor (x_lshl (σ 100 0 (i + 3)) 32) (x_land (σ 100 0 (i + 4)) 4294967295)) (hv _) (hv _) ⟨x_i64a _, x_i64b _⟩
    exact ⟨σ2, hi2, fun Q H => x_lc50 h0 h1 hv ha H⟩
  by_cases e51 : z = 49
  · subst e51
    rw [x_ts51]
    obtain ⟨σ2, hi2, ha⟩ := h51 σ hI (σ 100 0 (i + 1)) (σ 100 0 (i + 2)) (σ 100 0 (i + 3)) (σ 100 0 (i + 4)) (σ 100 0 (i + 5)) (hv _) (hv _) (hv _) (hv _) (hv _)
    exact ⟨σ2, hi2, fun Q H => x_lc51 h0 h1 hv ha H⟩
  rw [x_tsd (by omega)]
  exact ⟨σ, hI, fun Q H => H⟩
set_option maxHeartbeats 4000000 in
theorem x_lawloop {I : x_S → Prop} (h2 : x_o2 I) (h3 : x_o3 I) (h4 : x_o4 I) (h5 : x_o5 I) (h6 : x_o6 I) (h7 : x_o7 I) (h8 : x_o8 I) (h9 : x_o9 I) (h10 : x_o10 I) (h11 : x_o11 I) (h12 : x_o12 I) (h13 : x_o13 I) (h14 : x_o14 I) (h15 : x_o15 I) (h16 : x_o16 I) (h17 : x_o17 I) (h18 : x_o18 I) (h19 : x_o19 I) (h20 : x_o20 I) (h21 : x_o21 I) (h22 : x_o22 I) (h23 : x_o23 I) (h24 : x_o24 I) (h25 : x_o25 I) (h26 : x_o26 I) (h27 : x_o27 I) (h28 : x_o28 I) (h29 : x_o29 I) (h30 : x_o30 I) (h31 : x_o31 I) (h32 : x_o32 I) (h33 : x_o33 I) (h34 : x_o34 I) (h35 : x_o35 I) (h36 : x_o36 I) (h37 : x_o37 I) (h38 : x_o38 I) (h39 : x_o39 I) (h40 : x_o40 I) (h41 : x_o41 I) (h42 : x_o42 I) (h43 : x_o43 I) (h44 : x_o44 I) (h45 : x_o45 I) (h46 : x_o46 I) (h47 : x_o47 I) (h48 : x_o48 I) (h49 : x_o49 I) (h50 : x_o50 I) (h51 : x_o51 I) {L : Int} (hL : 0 ≤ L ∧ L ≤ 3072) {S0 : Int → Int} (hS : ∀ z, -2147483648 ≤ S0 z ∧ S0 z ≤ 2147483647) (hF : ∀ σ, I σ → (∀ z, σ 100 0 z = S0 z) ∧ σ 100 1 0 = L) :
    ∀ n : Nat, ∀ (i : Int) (σ : x_S), I σ → 0 ≤ i → i ≤ L + 6 → L - i ≤ n → ∃ σE, x_Wp 1000 272 (x_blk 272 1) [xR 100 0, xR 0 0, xR 50 0, xI i] [] σ (fun r σ' => r = some (xI 1) ∧ σ' = σE) := by
  have ex : ∀ (i : Int) (σ : x_S), I σ → 0 ≤ i → i ≤ 3072 + 12 → L - 6 < i → ∃ σE, x_Wp 1000 272 (x_blk 272 1) [xR 100 0, xR 0 0, xR 50 0, xI i] [] σ (fun r σ' => r = some (xI 1) ∧ σ' = σE) := by
    intro i σ hI h0 hb hlt
    have hl := (hF σ hI).2
    refine ⟨σ, ?_⟩
    rw [bk_272_1]
    simp (disch := first | omega | (simp only [x_wtI, x_wtJ, x_wtR, x_wtN]; omega)) only [bk_272_53, wp_zret0 mz_272, wp_zret1 mz_272, wp_zret mz_272, wp_ic, wp_lc, wp_ild0, wp_lld0, wp_ald0, wp_ist0, wp_lst0, wp_ast0, wp_inc0, wp_ild1, wp_lld1, wp_ald1, wp_ist1, wp_lst1, wp_ast1, wp_inc1, wp_ild2, wp_lld2, wp_ald2, wp_ist2, wp_lst2, wp_ast2, wp_inc2, wp_ild3, wp_lld3, wp_ald3, wp_ist3, wp_lst3, wp_ast3, wp_inc3, wp_ild4, wp_lld4, wp_ald4, wp_ist4, wp_lst4, wp_ast4, wp_inc4, wp_ild5, wp_lld5, wp_ald5, wp_ist5, wp_lst5, wp_ast5, wp_inc5, wp_ild6, wp_lld6, wp_ald6, wp_ist6, wp_lst6, wp_ast6, wp_inc6, wp_ild7, wp_lld7, wp_ald7, wp_ist7, wp_lst7, wp_ast7, wp_inc7, wp_ild8, wp_lld8, wp_ald8, wp_ist8, wp_lst8, wp_ast8, wp_inc8, wp_ild9, wp_lld9, wp_ald9, wp_ist9, wp_lst9, wp_ast9, wp_inc9, wp_ild10, wp_lld10, wp_ald10, wp_ist10, wp_lst10, wp_ast10, wp_inc10, wp_ild11, wp_lld11, wp_ald11, wp_ist11, wp_lst11, wp_ast11, wp_inc11, wp_ild12, wp_lld12, wp_ald12, wp_ist12, wp_lst12, wp_ast12, wp_inc12, wp_ild13, wp_lld13, wp_ald13, wp_ist13, wp_lst13, wp_ast13, wp_inc13, wp_ild14, wp_lld14, wp_ald14, wp_ist14, wp_lst14, wp_ast14, wp_inc14, wp_iadd, wp_isub, wp_imul, wp_iand, wp_ior, wp_ishl, wp_ishr, wp_iushr, wp_ineg, wp_ladd, wp_lsub, wp_lmul, wp_land, wp_lor, wp_lneg, wp_lshl, wp_lshr, wp_l2i, wp_i2b, wp_i2s, wp_i2c, wp_dupi, wp_dupr, wp_dup2, wp_pop, wp_pop2, wp_idiv, wp_irem, wp_ldiv, wp_i2l, wp_lcmp, wp_aald, wp_parts, wp_cmpct, wp_fmt, wp_lds, wp_sval, wp_scod, wp_pald, wp_sbal, wp_slen, wp_clen, wp_cald, wp_ifeq, wp_ifne, wp_iflt, wp_ifge, wp_ifgt, wp_ifle, wp_iclt, wp_icge, wp_icgt, wp_icle, wp_iceq, wp_icne, wp_goto, wp_fall, wp_tsw, wp_lsw, wp_lret, wp_aret, wp_ret, x_clr_I, x_clr_J, x_clr_R, x_clr_U, ct_some, ct_none, lc_lt, lc_ge, lc_gt, lc_le, lc_eq, lc_r, xI_inj, xJ_inj, Option.some.injEq, eq_self, bi_r, bi_0, bi_1, bi_n, Classical.not_not, Int.tdiv_eq_ediv_of_nonneg, Int.tmod_eq_emod_of_nonneg, and_true, true_and, ite_true, ite_false, wp_geti kd_0, wp_getj kd_0, wp_puti kd_0, wp_putj kd_0, wp_putz kd_0, wl_1, ws_1, we_1, wl_2, ws_2, we_2, wp_geti kd_3, wp_getj kd_3, wp_puti kd_3, wp_putj kd_3, wp_putz kd_3, wl_4, ws_4, we_4, wl_5, ws_5, we_5, wp_geti kd_6, wp_getj kd_6, wp_puti kd_6, wp_putj kd_6, wp_putz kd_6, wl_7, ws_7, we_7, wl_8, ws_8, we_8, wl_9, ws_9, we_9, wl_10, ws_10, we_10, wl_11, ws_11, we_11, wl_12, ws_12, we_12, wl_13, ws_13, we_13, wl_14, ws_14, we_14, wl_15, ws_15, we_15, wp_geti kd_16, wp_getj kd_16, wp_puti kd_16, wp_putj kd_16, wp_putz kd_16, wl_17, ws_17, we_17, wl_18, ws_18, we_18, wl_19, ws_19, we_19, wp_geti kd_20, wp_getj kd_20, wp_puti kd_20, wp_putj kd_20, wp_putz kd_20, wl_21, ws_21, we_21, wl_22, ws_22, we_22, wp_geti kd_24, wp_getj kd_24, wp_puti kd_24, wp_putj kd_24, wp_putz kd_24, wl_25, ws_25, we_25, wl_26, ws_26, we_26, wl_27, ws_27, we_27, wl_28, ws_28, we_28, wp_geti kd_29, wp_getj kd_29, wp_puti kd_29, wp_putj kd_29, wp_putz kd_29, wl_30, ws_30, we_30, wl_31, ws_31, we_31, wl_32, ws_32, we_32, wp_geti kd_33, wp_getj kd_33, wp_puti kd_33, wp_putj kd_33, wp_putz kd_33, wl_34, ws_34, we_34, wl_35, ws_35, we_35, wl_36, ws_36, we_36, wl_37, ws_37, we_37, wl_38, ws_38, we_38, wl_39, ws_39, we_39, wl_40, ws_40, we_40, wl_41, ws_41, we_41, wl_42, ws_42, we_42, wl_43, ws_43, we_43, wp_geti kd_44, wp_getj kd_44, wp_puti kd_44, wp_putj kd_44, wp_putz kd_44, wl_45, ws_45, we_45, wl_46, ws_46, we_46, wl_47, ws_47, we_47, wl_48, ws_48, we_48, wl_49, ws_49, we_49, wp_geti kd_50, wp_getj kd_50, wp_puti kd_50, wp_putj kd_50, wp_putz kd_50, wl_51, ws_51, we_51, wl_52, ws_52, we_52, wl_53, ws_53, we_53, wl_54, ws_54, we_54, wl_55, ws_55, we_55, wl_56, ws_56, we_56, wl_57, ws_57, we_57, wl_58, ws_58, we_58, wl_59, ws_59, we_59, wl_60, ws_60, we_60, wl_61, ws_61, we_61, wl_62, ws_62, we_62, wl_63, ws_63, we_63, wl_64, ws_64, we_64, wl_65, ws_65, we_65, wl_66, ws_66, we_66, wl_67, ws_67, we_67, wl_68, ws_68, we_68, wl_69, ws_69, we_69, wl_70, ws_70, we_70, wl_71, ws_71, we_71, wl_72, ws_72, we_72, wl_73, ws_73, we_73, wr_0_0, wr_0_1, wr_0_2, wr_0_3, wr_0_4, wr_0_5, wr_0_6, wr_0_7, wr_0_8, wr_0_9, wr_0_10, wr_0_11, wr_0_12, wr_3_0, wr_3_4, wr_3_5, wr_6_7, wr_6_8, wr_6_9, wr_6_10, wr_6_11, wr_6_12, wr_6_13, wr_6_14, wr_6_15, wr_16_0, wr_16_1, wr_16_2, wr_20_0, wr_20_1, wr_20_2, wr_24_0, wr_24_4, wr_24_5, wr_24_6, wr_24_10, wr_29_0, wr_29_1, wr_29_2, wr_29_3, wr_33_0, wr_33_1, wr_33_2, wr_33_3, wr_33_4, wr_33_5, wr_33_6, wr_33_7, wr_33_8, wr_33_9, wr_33_11, wr_44_0, wr_44_1, wr_44_2, wr_44_3, wr_44_4, wr_44_5, wr_50_1, wr_50_2, wr_50_3, wr_50_4, wr_50_6, wr_50_14, wr_50_15, wr_50_16, wr_50_20, wr_50_21, wr_50_22, wr_50_25, wr_50_26, wr_50_27, wr_50_28, wr_50_29, wr_50_30, wr_50_31, wr_50_32, wr_50_34, wr_50_35, wr_50_36, wr_50_37, hl, if_pos, x_andl]
  intro n
  induction n with
  | zero => intro i σ hI h0 hb hn; exact ex i σ hI h0 (by omega) (by omega)
  | succ n ih =>
    intro i σ hI h0 hb hn
    by_cases hlt : L - 6 < i
    · exact ex i σ hI h0 (by omega) hlt
    · have hf := hF σ hI
      have hl := hf.2
      obtain ⟨σ2, hI2, hc⟩ := x_lcase h2 h3 h4 h5 h6 h7 h8 h9 h10 h11 h12 h13 h14 h15 h16 h17 h18 h19 h20 h21 h22 h23 h24 h25 h26 h27 h28 h29 h30 h31 h32 h33 h34 h35 h36 h37 h38 h39 h40 h41 h42 h43 h44 h45 h46 h47 h48 h49 h50 h51 (i := i) (z := x_and (σ 100 0 i) 63) hI h0 (by omega) (fun z => by rw [hf.1 z]; exact hS z)
      obtain ⟨σE, hE⟩ := ih (i + 6) σ2 hI2 (by omega) (by omega) (by omega)
      refine ⟨σE, ?_⟩
      have hw := hc (fun r σ' => r = some (xI 1) ∧ σ' = σE) (by rw [bk_272_52]; simp (disch := first | omega | (simp only [x_wtI, x_wtJ, x_wtR, x_wtN]; omega)) only [wp_ic, wp_lc, wp_ild0, wp_lld0, wp_ald0, wp_ist0, wp_lst0, wp_ast0, wp_inc0, wp_ild1, wp_lld1, wp_ald1, wp_ist1, wp_lst1, wp_ast1, wp_inc1, wp_ild2, wp_lld2, wp_ald2, wp_ist2, wp_lst2, wp_ast2, wp_inc2, wp_ild3, wp_lld3, wp_ald3, wp_ist3, wp_lst3, wp_ast3, wp_inc3, wp_ild4, wp_lld4, wp_ald4, wp_ist4, wp_lst4, wp_ast4, wp_inc4, wp_ild5, wp_lld5, wp_ald5, wp_ist5, wp_lst5, wp_ast5, wp_inc5, wp_ild6, wp_lld6, wp_ald6, wp_ist6, wp_lst6, wp_ast6, wp_inc6, wp_ild7, wp_lld7, wp_ald7, wp_ist7, wp_lst7, wp_ast7, wp_inc7, wp_ild8, wp_lld8, wp_ald8, wp_ist8, wp_lst8, wp_ast8, wp_inc8, wp_ild9, wp_lld9, wp_ald9, wp_ist9, wp_lst9, wp_ast9, wp_inc9, wp_ild10, wp_lld10, wp_ald10, wp_ist10, wp_lst10, wp_ast10, wp_inc10, wp_ild11, wp_lld11, wp_ald11, wp_ist11, wp_lst11, wp_ast11, wp_inc11, wp_ild12, wp_lld12, wp_ald12, wp_ist12, wp_lst12, wp_ast12, wp_inc12, wp_ild13, wp_lld13, wp_ald13, wp_ist13, wp_lst13, wp_ast13, wp_inc13, wp_ild14, wp_lld14, wp_ald14, wp_ist14, wp_lst14, wp_ast14, wp_inc14, wp_iadd, wp_isub, wp_imul, wp_iand, wp_ior, wp_ishl, wp_ishr, wp_iushr, wp_ineg, wp_ladd, wp_lsub, wp_lmul, wp_land, wp_lor, wp_lneg, wp_lshl, wp_lshr, wp_l2i, wp_i2b, wp_i2s, wp_i2c, wp_dupi, wp_dupr, wp_dup2, wp_pop, wp_pop2, wp_idiv, wp_irem, wp_ldiv, wp_i2l, wp_lcmp, wp_aald, wp_parts, wp_cmpct, wp_fmt, wp_lds, wp_sval, wp_scod, wp_pald, wp_sbal, wp_slen, wp_clen, wp_cald, wp_ifeq, wp_ifne, wp_iflt, wp_ifge, wp_ifgt, wp_ifle, wp_iclt, wp_icge, wp_icgt, wp_icle, wp_iceq, wp_icne, wp_goto, wp_fall, wp_tsw, wp_lsw, wp_lret, wp_aret, wp_ret, x_clr_I, x_clr_J, x_clr_R, x_clr_U, ct_some, ct_none, lc_lt, lc_ge, lc_gt, lc_le, lc_eq, lc_r, xI_inj, xJ_inj, Option.some.injEq, eq_self, bi_r, bi_0, bi_1, bi_n, Classical.not_not, Int.tdiv_eq_ediv_of_nonneg, Int.tmod_eq_emod_of_nonneg, and_true, true_and, ite_true, ite_false, wp_geti kd_0, wp_getj kd_0, wp_puti kd_0, wp_putj kd_0, wp_putz kd_0, wl_1, ws_1, we_1, wl_2, ws_2, we_2, wp_geti kd_3, wp_getj kd_3, wp_puti kd_3, wp_putj kd_3, wp_putz kd_3, wl_4, ws_4, we_4, wl_5, ws_5, we_5, wp_geti kd_6, wp_getj kd_6, wp_puti kd_6, wp_putj kd_6, wp_putz kd_6, wl_7, ws_7, we_7, wl_8, ws_8, we_8, wl_9, ws_9, we_9, wl_10, ws_10, we_10, wl_11, ws_11, we_11, wl_12, ws_12, we_12, wl_13, ws_13, we_13, wl_14, ws_14, we_14, wl_15, ws_15, we_15, wp_geti kd_16, wp_getj kd_16, wp_puti kd_16, wp_putj kd_16, wp_putz kd_16, wl_17, ws_17, we_17, wl_18, ws_18, we_18, wl_19, ws_19, we_19, wp_geti kd_20, wp_getj kd_20, wp_puti kd_20, wp_putj kd_20, wp_putz kd_20, wl_21, ws_21, we_21, wl_22, ws_22, we_22, wp_geti kd_24, wp_getj kd_24, wp_puti kd_24, wp_putj kd_24, wp_putz kd_24, wl_25, ws_25, we_25, wl_26, ws_26, we_26, wl_27, ws_27, we_27, wl_28, ws_28, we_28, wp_geti kd_29, wp_getj kd_29, wp_puti kd_29, wp_putj kd_29, wp_putz kd_29, wl_30, ws_30, we_30, wl_31, ws_31, we_31, wl_32, ws_32, we_32, wp_geti kd_33, wp_getj kd_33, wp_puti kd_33, wp_putj kd_33, wp_putz kd_33, wl_34, ws_34, we_34, wl_35, ws_35, we_35, wl_36, ws_36, we_36, wl_37, ws_37, we_37, wl_38, ws_38, we_38, wl_39, ws_39, we_39, wl_40, ws_40, we_40, wl_41, ws_41, we_41, wl_42, ws_42, we_42, wl_43, ws_43, we_43, wp_geti kd_44, wp_getj kd_44, wp_puti kd_44, wp_putj kd_44, wp_putz kd_44, wl_45, ws_45, we_45, wl_46, ws_46, we_46, wl_47, ws_47, we_47, wl_48, ws_48, we_48, wl_49, ws_49, we_49, wp_geti kd_50, wp_getj kd_50, wp_puti kd_50, wp_putj kd_50, wp_putz kd_50, wl_51, ws_51, we_51, wl_52, ws_52, we_52, wl_53, ws_53, we_53, wl_54, ws_54, we_54, wl_55, ws_55, we_55, wl_56, ws_56, we_56, wl_57, ws_57, we_57, wl_58, ws_58, we_58, wl_59, ws_59, we_59, wl_60, ws_60, we_60, wl_61, ws_61, we_61, wl_62, ws_62, we_62, wl_63, ws_63, we_63, wl_64, ws_64, we_64, wl_65, ws_65, we_65, wl_66, ws_66, we_66, wl_67, ws_67, we_67, wl_68, ws_68, we_68, wl_69, ws_69, we_69, wl_70, ws_70, we_70, wl_71, ws_71, we_71, wl_72, ws_72, we_72, wl_73, ws_73, we_73, wr_0_0, wr_0_1, wr_0_2, wr_0_3, wr_0_4, wr_0_5, wr_0_6, wr_0_7, wr_0_8, wr_0_9, wr_0_10, wr_0_11, wr_0_12, wr_3_0, wr_3_4, wr_3_5, wr_6_7, wr_6_8, wr_6_9, wr_6_10, wr_6_11, wr_6_12, wr_6_13, wr_6_14, wr_6_15, wr_16_0, wr_16_1, wr_16_2, wr_20_0, wr_20_1, wr_20_2, wr_24_0, wr_24_4, wr_24_5, wr_24_6, wr_24_10, wr_29_0, wr_29_1, wr_29_2, wr_29_3, wr_33_0, wr_33_1, wr_33_2, wr_33_3, wr_33_4, wr_33_5, wr_33_6, wr_33_7, wr_33_8, wr_33_9, wr_33_11, wr_44_0, wr_44_1, wr_44_2, wr_44_3, wr_44_4, wr_44_5, wr_50_1, wr_50_2, wr_50_3, wr_50_4, wr_50_6, wr_50_14, wr_50_15, wr_50_16, wr_50_20, wr_50_21, wr_50_22, wr_50_25, wr_50_26, wr_50_27, wr_50_28, wr_50_29, wr_50_30, wr_50_31, wr_50_32, wr_50_34, wr_50_35, wr_50_36, wr_50_37]; exact hE)
      have hr1 : -2147483648 ≤ x_and (σ 100 0 i) 63 := x_i32a _
      have hr2 : x_and (σ 100 0 i) 63 ≤ 2147483647 := x_i32b _
      rw [bk_272_1]
      simp (disch := first | omega | (simp only [x_wtI, x_wtJ, x_wtR, x_wtN]; omega)) only [wp_ic, wp_lc, wp_ild0, wp_lld0, wp_ald0, wp_ist0, wp_lst0, wp_ast0, wp_inc0, wp_ild1, wp_lld1, wp_ald1, wp_ist1, wp_lst1, wp_ast1, wp_inc1, wp_ild2, wp_lld2, wp_ald2, wp_ist2, wp_lst2, wp_ast2, wp_inc2, wp_ild3, wp_lld3, wp_ald3, wp_ist3, wp_lst3, wp_ast3, wp_inc3, wp_ild4, wp_lld4, wp_ald4, wp_ist4, wp_lst4, wp_ast4, wp_inc4, wp_ild5, wp_lld5, wp_ald5, wp_ist5, wp_lst5, wp_ast5, wp_inc5, wp_ild6, wp_lld6, wp_ald6, wp_ist6, wp_lst6, wp_ast6, wp_inc6, wp_ild7, wp_lld7, wp_ald7, wp_ist7, wp_lst7, wp_ast7, wp_inc7, wp_ild8, wp_lld8, wp_ald8, wp_ist8, wp_lst8, wp_ast8, wp_inc8, wp_ild9, wp_lld9, wp_ald9, wp_ist9, wp_lst9, wp_ast9, wp_inc9, wp_ild10, wp_lld10, wp_ald10, wp_ist10, wp_lst10, wp_ast10, wp_inc10, wp_ild11, wp_lld11, wp_ald11, wp_ist11, wp_lst11, wp_ast11, wp_inc11, wp_ild12, wp_lld12, wp_ald12, wp_ist12, wp_lst12, wp_ast12, wp_inc12, wp_ild13, wp_lld13, wp_ald13, wp_ist13, wp_lst13, wp_ast13, wp_inc13, wp_ild14, wp_lld14, wp_ald14, wp_ist14, wp_lst14, wp_ast14, wp_inc14, wp_iadd, wp_isub, wp_imul, wp_iand, wp_ior, wp_ishl, wp_ishr, wp_iushr, wp_ineg, wp_ladd, wp_lsub, wp_lmul, wp_land, wp_lor, wp_lneg, wp_lshl, wp_lshr, wp_l2i, wp_i2b, wp_i2s, wp_i2c, wp_dupi, wp_dupr, wp_dup2, wp_pop, wp_pop2, wp_idiv, wp_irem, wp_ldiv, wp_i2l, wp_lcmp, wp_aald, wp_parts, wp_cmpct, wp_fmt, wp_lds, wp_sval, wp_scod, wp_pald, wp_sbal, wp_slen, wp_clen, wp_cald, wp_ifeq, wp_ifne, wp_iflt, wp_ifge, wp_ifgt, wp_ifle, wp_iclt, wp_icge, wp_icgt, wp_icle, wp_iceq, wp_icne, wp_goto, wp_fall, wp_tsw, wp_lsw, wp_lret, wp_aret, wp_ret, x_clr_I, x_clr_J, x_clr_R, x_clr_U, ct_some, ct_none, lc_lt, lc_ge, lc_gt, lc_le, lc_eq, lc_r, xI_inj, xJ_inj, Option.some.injEq, eq_self, bi_r, bi_0, bi_1, bi_n, Classical.not_not, Int.tdiv_eq_ediv_of_nonneg, Int.tmod_eq_emod_of_nonneg, and_true, true_and, ite_true, ite_false, wp_geti kd_0, wp_getj kd_0, wp_puti kd_0, wp_putj kd_0, wp_putz kd_0, wl_1, ws_1, we_1, wl_2, ws_2, we_2, wp_geti kd_3, wp_getj kd_3, wp_puti kd_3, wp_putj kd_3, wp_putz kd_3, wl_4, ws_4, we_4, wl_5, ws_5, we_5, wp_geti kd_6, wp_getj kd_6, wp_puti kd_6, wp_putj kd_6, wp_putz kd_6, wl_7, ws_7, we_7, wl_8, ws_8, we_8, wl_9, ws_9, we_9, wl_10, ws_10, we_10, wl_11, ws_11, we_11, wl_12, ws_12, we_12, wl_13, ws_13, we_13, wl_14, ws_14, we_14, wl_15, ws_15, we_15, wp_geti kd_16, wp_getj kd_16, wp_puti kd_16, wp_putj kd_16, wp_putz kd_16, wl_17, ws_17, we_17, wl_18, ws_18, we_18, wl_19, ws_19, we_19, wp_geti kd_20, wp_getj kd_20, wp_puti kd_20, wp_putj kd_20, wp_putz kd_20, wl_21, ws_21, we_21, wl_22, ws_22, we_22, wp_geti kd_24, wp_getj kd_24, wp_puti kd_24, wp_putj kd_24, wp_putz kd_24, wl_25, ws_25, we_25, wl_26, ws_26, we_26, wl_27, ws_27, we_27, wl_28, ws_28, we_28, wp_geti kd_29, wp_getj kd_29, wp_puti kd_29, wp_putj kd_29, wp_putz kd_29, wl_30, ws_30, we_30, wl_31, ws_31, we_31, wl_32, ws_32, we_32, wp_geti kd_33, wp_getj kd_33, wp_puti kd_33, wp_putj kd_33, wp_putz kd_33, wl_34, ws_34, we_34, wl_35, ws_35, we_35, wl_36, ws_36, we_36, wl_37, ws_37, we_37, wl_38, ws_38, we_38, wl_39, ws_39, we_39, wl_40, ws_40, we_40, wl_41, ws_41, we_41, wl_42, ws_42, we_42, wl_43, ws_43, we_43, wp_geti kd_44, wp_getj kd_44, wp_puti kd_44, wp_putj kd_44, wp_putz kd_44, wl_45, ws_45, we_45, wl_46, ws_46, we_46, wl_47, ws_47, we_47, wl_48, ws_48, we_48, wl_49, ws_49, we_49, wp_geti kd_50, wp_getj kd_50, wp_puti kd_50, wp_putj kd_50, wp_putz kd_50, wl_51, ws_51, we_51, wl_52, ws_52, we_52, wl_53, ws_53, we_53, wl_54, ws_54, we_54, wl_55, ws_55, we_55, wl_56, ws_56, we_56, wl_57, ws_57, we_57, wl_58, ws_58, we_58, wl_59, ws_59, we_59, wl_60, ws_60, we_60, wl_61, ws_61, we_61, wl_62, ws_62, we_62, wl_63, ws_63, we_63, wl_64, ws_64, we_64, wl_65, ws_65, we_65, wl_66, ws_66, we_66, wl_67, ws_67, we_67, wl_68, ws_68, we_68, wl_69, ws_69, we_69, wl_70, ws_70, we_70, wl_71, ws_71, we_71, wl_72, ws_72, we_72, wl_73, ws_73, we_73, wr_0_0, wr_0_1, wr_0_2, wr_0_3, wr_0_4, wr_0_5, wr_0_6, wr_0_7, wr_0_8, wr_0_9, wr_0_10, wr_0_11, wr_0_12, wr_3_0, wr_3_4, wr_3_5, wr_6_7, wr_6_8, wr_6_9, wr_6_10, wr_6_11, wr_6_12, wr_6_13, wr_6_14, wr_6_15, wr_16_0, wr_16_1, wr_16_2, wr_20_0, wr_20_1, wr_20_2, wr_24_0, wr_24_4, wr_24_5, wr_24_6, wr_24_10, wr_29_0, wr_29_1, wr_29_2, wr_29_3, wr_33_0, wr_33_1, wr_33_2, wr_33_3, wr_33_4, wr_33_5, wr_33_6, wr_33_7, wr_33_8, wr_33_9, wr_33_11, wr_44_0, wr_44_1, wr_44_2, wr_44_3, wr_44_4, wr_44_5, wr_50_1, wr_50_2, wr_50_3, wr_50_4, wr_50_6, wr_50_14, wr_50_15, wr_50_16, wr_50_20, wr_50_21, wr_50_22, wr_50_25, wr_50_26, wr_50_27, wr_50_28, wr_50_29, wr_50_30, wr_50_31, wr_50_32, wr_50_34, wr_50_35, wr_50_36, wr_50_37, hl, if_neg, x_andl]
      exact hw
