/-! every method's words stand in the tables -/
def am_sP (z : Nat) : Prop := match am_sk z with
  | 0 => Cond.instanceMethod (am_nm z) ∈ am_G ∧ Cond.selects (am_nm z).cls (am_nm z) (am_nm z) ∈ am_G
  | 1 => Cond.static (am_nm z) ∈ am_G
  | 2 => Cond.instanceMethod (am_nm z) ∈ am_G ∧ (am_nm z).name = "<init>"
  | _ => False
def am_cP (z : Nat) : Prop := lw_tbl[am_ci z]? = some (Cond.code (am_nm z) (am_bc z) (am_ml z) (am_rt z)) ∧ (am_nm z).cls = am_cn (am_cx z) ∧ am_np z = some (am_nn z) ∧ am_sP z
set_option maxRecDepth 100000 in
theorem am_cm0 : am_cP 0 := ⟨rfl, rfl, by decide +kernel, ⟨am_m1 193 rfl rfl, rfl⟩⟩
set_option maxRecDepth 100000 in
theorem am_cm1 : am_cP 1 := ⟨rfl, rfl, by decide +kernel, (am_m3 164 rfl rfl)⟩
set_option maxRecDepth 100000 in
theorem am_cm2 : am_cP 2 := ⟨rfl, rfl, by decide +kernel, ⟨am_m5 47 rfl rfl, am_m0 22 rfl rfl⟩⟩
set_option maxRecDepth 100000 in
theorem am_cm3 : am_cP 3 := ⟨rfl, rfl, by decide +kernel, ⟨am_m5 38 rfl rfl, am_m0 20 rfl rfl⟩⟩
set_option maxRecDepth 100000 in
theorem am_cm4 : am_cP 4 := ⟨rfl, rfl, by decide +kernel, ⟨am_m5 42 rfl rfl, am_m0 21 rfl rfl⟩⟩
set_option maxRecDepth 100000 in
theorem am_cm5 : am_cP 5 := ⟨rfl, rfl, by decide +kernel, ⟨am_m1 32 rfl rfl, rfl⟩⟩
set_option maxRecDepth 100000 in
theorem am_cm6 : am_cP 6 := ⟨rfl, rfl, by decide +kernel, ⟨am_m5 210 rfl rfl, am_m5 211 rfl rfl⟩⟩
set_option maxRecDepth 100000 in
theorem am_cm7 : am_cP 7 := ⟨rfl, rfl, by decide +kernel, ⟨am_m2 163 rfl rfl, am_m2 164 rfl rfl⟩⟩
set_option maxRecDepth 100000 in
theorem am_cm8 : am_cP 8 := ⟨rfl, rfl, by decide +kernel, ⟨am_m2 203 rfl rfl, am_m2 204 rfl rfl⟩⟩
set_option maxRecDepth 100000 in
theorem am_cm9 : am_cP 9 := ⟨rfl, rfl, by decide +kernel, ⟨am_m3 94 rfl rfl, am_m3 95 rfl rfl⟩⟩
set_option maxRecDepth 100000 in
theorem am_cm10 : am_cP 10 := ⟨rfl, rfl, by decide +kernel, ⟨am_m4 166 rfl rfl, am_m4 167 rfl rfl⟩⟩
set_option maxRecDepth 100000 in
theorem am_cm11 : am_cP 11 := ⟨rfl, rfl, by decide +kernel, ⟨am_m2 183 rfl rfl, am_m2 184 rfl rfl⟩⟩
set_option maxRecDepth 100000 in
theorem am_cm12 : am_cP 12 := ⟨rfl, rfl, by decide +kernel, ⟨am_m5 108 rfl rfl, am_m5 109 rfl rfl⟩⟩
set_option maxRecDepth 100000 in
theorem am_cm13 : am_cP 13 := ⟨rfl, rfl, by decide +kernel, ⟨am_m2 151 rfl rfl, am_m2 152 rfl rfl⟩⟩
set_option maxRecDepth 100000 in
theorem am_cm14 : am_cP 14 := ⟨rfl, rfl, by decide +kernel, ⟨am_m2 171 rfl rfl, am_m2 172 rfl rfl⟩⟩
set_option maxRecDepth 100000 in
theorem am_cm15 : am_cP 15 := ⟨rfl, rfl, by decide +kernel, ⟨am_m2 187 rfl rfl, am_m2 188 rfl rfl⟩⟩
set_option maxRecDepth 100000 in
theorem am_cm16 : am_cP 16 := ⟨rfl, rfl, by decide +kernel, ⟨am_m5 55 rfl rfl, am_m5 56 rfl rfl⟩⟩
set_option maxRecDepth 100000 in
theorem am_cm17 : am_cP 17 := ⟨rfl, rfl, by decide +kernel, ⟨am_m5 71 rfl rfl, am_m5 72 rfl rfl⟩⟩
set_option maxRecDepth 100000 in
theorem am_cm18 : am_cP 18 := ⟨rfl, rfl, by decide +kernel, ⟨am_m5 193 rfl rfl, am_m5 194 rfl rfl⟩⟩
set_option maxRecDepth 100000 in
theorem am_cm19 : am_cP 19 := ⟨rfl, rfl, by decide +kernel, ⟨am_m5 80 rfl rfl, am_m5 81 rfl rfl⟩⟩
set_option maxRecDepth 100000 in
theorem am_cm20 : am_cP 20 := ⟨rfl, rfl, by decide +kernel, ⟨am_m3 98 rfl rfl, am_m3 99 rfl rfl⟩⟩
set_option maxRecDepth 100000 in
theorem am_cm21 : am_cP 21 := ⟨rfl, rfl, by decide +kernel, ⟨am_m1 99 rfl rfl, rfl⟩⟩
set_option maxRecDepth 100000 in
theorem am_cm22 : am_cP 22 := ⟨rfl, rfl, by decide +kernel, ⟨am_m2 223 rfl rfl, am_m2 224 rfl rfl⟩⟩
set_option maxRecDepth 100000 in
theorem am_cm23 : am_cP 23 := ⟨rfl, rfl, by decide +kernel, (am_m2 237 rfl rfl)⟩
set_option maxRecDepth 100000 in
theorem am_cm24 : am_cP 24 := ⟨rfl, rfl, by decide +kernel, ⟨am_m2 215 rfl rfl, am_m2 216 rfl rfl⟩⟩
set_option maxRecDepth 100000 in
theorem am_cm25 : am_cP 25 := ⟨rfl, rfl, by decide +kernel, ⟨am_m2 211 rfl rfl, am_m2 212 rfl rfl⟩⟩
set_option maxRecDepth 100000 in
theorem am_cm26 : am_cP 26 := ⟨rfl, rfl, by decide +kernel, ⟨am_m3 86 rfl rfl, am_m3 87 rfl rfl⟩⟩
set_option maxRecDepth 100000 in
theorem am_cm27 : am_cP 27 := ⟨rfl, rfl, by decide +kernel, ⟨am_m3 129 rfl rfl, am_m3 130 rfl rfl⟩⟩
set_option maxRecDepth 100000 in
theorem am_cm28 : am_cP 28 := ⟨rfl, rfl, by decide +kernel, ⟨am_m4 210 rfl rfl, am_m4 211 rfl rfl⟩⟩
set_option maxRecDepth 100000 in
theorem am_cm29 : am_cP 29 := ⟨rfl, rfl, by decide +kernel, ⟨am_m1 174 rfl rfl, rfl⟩⟩
set_option maxRecDepth 100000 in
theorem am_cm30 : am_cP 30 := ⟨rfl, rfl, by decide +kernel, ⟨am_m3 33 rfl rfl, am_m0 0 rfl rfl⟩⟩
set_option maxRecDepth 100000 in
theorem am_cm31 : am_cP 31 := ⟨rfl, rfl, by decide +kernel, ⟨am_m3 41 rfl rfl, am_m0 1 rfl rfl⟩⟩
set_option maxRecDepth 100000 in
theorem am_cm32 : am_cP 32 := ⟨rfl, rfl, by decide +kernel, (am_m3 48 rfl rfl)⟩
set_option maxRecDepth 100000 in
theorem am_cm33 : am_cP 33 := ⟨rfl, rfl, by decide +kernel, (am_m3 51 rfl rfl)⟩
set_option maxRecDepth 100000 in
theorem am_cm34 : am_cP 34 := ⟨rfl, rfl, by decide +kernel, ⟨am_m2 81 rfl rfl, rfl⟩⟩
set_option maxRecDepth 100000 in
theorem am_cm35 : am_cP 35 := ⟨rfl, rfl, by decide +kernel, (am_m5 96 rfl rfl)⟩
set_option maxRecDepth 100000 in
theorem am_cm36 : am_cP 36 := ⟨rfl, rfl, by decide +kernel, ⟨am_m5 134 rfl rfl, am_m0 24 rfl rfl⟩⟩
set_option maxRecDepth 100000 in
theorem am_cm37 : am_cP 37 := ⟨rfl, rfl, by decide +kernel, ⟨am_m5 151 rfl rfl, am_m0 27 rfl rfl⟩⟩
set_option maxRecDepth 100000 in
theorem am_cm38 : am_cP 38 := ⟨rfl, rfl, by decide +kernel, ⟨am_m1 226 rfl rfl, rfl⟩⟩
set_option maxRecDepth 100000 in
theorem am_cm39 : am_cP 39 := ⟨rfl, rfl, by decide +kernel, ⟨am_m4 19 rfl rfl, am_m0 6 rfl rfl⟩⟩
set_option maxRecDepth 100000 in
theorem am_cm40 : am_cP 40 := ⟨rfl, rfl, by decide +kernel, (am_m3 200 rfl rfl)⟩
set_option maxRecDepth 100000 in
theorem am_cm41 : am_cP 41 := ⟨rfl, rfl, by decide +kernel, (am_m4 22 rfl rfl)⟩
set_option maxRecDepth 100000 in
theorem am_cm42 : am_cP 42 := ⟨rfl, rfl, by decide +kernel, (am_m4 25 rfl rfl)⟩
set_option maxRecDepth 100000 in
theorem am_cm43 : am_cP 43 := ⟨rfl, rfl, by decide +kernel, ⟨am_m4 89 rfl rfl, am_m0 7 rfl rfl⟩⟩
set_option maxRecDepth 100000 in
theorem am_cm44 : am_cP 44 := ⟨rfl, rfl, by decide +kernel, ⟨am_m4 97 rfl rfl, am_m0 9 rfl rfl⟩⟩
set_option maxRecDepth 100000 in
theorem am_cm45 : am_cP 45 := ⟨rfl, rfl, by decide +kernel, ⟨am_m4 126 rfl rfl, am_m0 14 rfl rfl⟩⟩
set_option maxRecDepth 100000 in
theorem am_cm46 : am_cP 46 := ⟨rfl, rfl, by decide +kernel, ⟨am_m4 134 rfl rfl, am_m0 15 rfl rfl⟩⟩
set_option maxRecDepth 100000 in
theorem am_cm47 : am_cP 47 := ⟨rfl, rfl, by decide +kernel, ⟨am_m2 62 rfl rfl, rfl⟩⟩
set_option maxRecDepth 100000 in
theorem am_cm48 : am_cP 48 := ⟨rfl, rfl, by decide +kernel, ⟨am_m5 182 rfl rfl, am_m0 30 rfl rfl⟩⟩
set_option maxRecDepth 100000 in
theorem am_cm49 : am_cP 49 := ⟨rfl, rfl, by decide +kernel, ⟨am_m1 141 rfl rfl, rfl⟩⟩
set_option maxRecDepth 100000 in
theorem am_cm50 : am_cP 50 := ⟨rfl, rfl, by decide +kernel, ⟨am_m3 192 rfl rfl, am_m3 193 rfl rfl⟩⟩
set_option maxRecDepth 100000 in
theorem am_cm51 : am_cP 51 := ⟨rfl, rfl, by decide +kernel, ⟨am_m3 36 rfl rfl, am_m3 37 rfl rfl⟩⟩
set_option maxRecDepth 100000 in
theorem am_cm52 : am_cP 52 := ⟨rfl, rfl, by decide +kernel, ⟨am_m4 105 rfl rfl, am_m4 106 rfl rfl⟩⟩
set_option maxRecDepth 100000 in
theorem am_cm53 : am_cP 53 := ⟨rfl, rfl, by decide +kernel, ⟨am_m4 153 rfl rfl, am_m4 154 rfl rfl⟩⟩
set_option maxRecDepth 100000 in
theorem am_cm54 : am_cP 54 := ⟨rfl, rfl, by decide +kernel, ⟨am_m4 129 rfl rfl, am_m4 130 rfl rfl⟩⟩
set_option maxRecDepth 100000 in
theorem am_cm55 : am_cP 55 := ⟨rfl, rfl, by decide +kernel, ⟨am_m4 101 rfl rfl, am_m4 102 rfl rfl⟩⟩
set_option maxRecDepth 100000 in
theorem am_cm56 : am_cP 56 := ⟨rfl, rfl, by decide +kernel, ⟨am_m4 145 rfl rfl, am_m4 146 rfl rfl⟩⟩
set_option maxRecDepth 100000 in
theorem am_cm57 : am_cP 57 := ⟨rfl, rfl, by decide +kernel, ⟨am_m4 174 rfl rfl, am_m4 175 rfl rfl⟩⟩
set_option maxRecDepth 100000 in
theorem am_cm58 : am_cP 58 := ⟨rfl, rfl, by decide +kernel, ⟨am_m4 178 rfl rfl, am_m4 179 rfl rfl⟩⟩
set_option maxRecDepth 100000 in
theorem am_cm59 : am_cP 59 := ⟨rfl, rfl, by decide +kernel, ⟨am_m2 191 rfl rfl, am_m2 192 rfl rfl⟩⟩
set_option maxRecDepth 100000 in
theorem am_cm60 : am_cP 60 := ⟨rfl, rfl, by decide +kernel, ⟨am_m3 177 rfl rfl, am_m0 4 rfl rfl⟩⟩
set_option maxRecDepth 100000 in
theorem am_cm61 : am_cP 61 := ⟨rfl, rfl, by decide +kernel, ⟨am_m3 180 rfl rfl, am_m3 181 rfl rfl⟩⟩
set_option maxRecDepth 100000 in
theorem am_cm62 : am_cP 62 := ⟨rfl, rfl, by decide +kernel, ⟨am_m4 158 rfl rfl, am_m4 159 rfl rfl⟩⟩
set_option maxRecDepth 100000 in
theorem am_cm63 : am_cP 63 := ⟨rfl, rfl, by decide +kernel, ⟨am_m5 224 rfl rfl, am_m5 225 rfl rfl⟩⟩
set_option maxRecDepth 100000 in
theorem am_cm64 : am_cP 64 := ⟨rfl, rfl, by decide +kernel, (am_m6 166 rfl rfl)⟩
set_option maxRecDepth 100000 in
theorem am_cm65 : am_cP 65 := ⟨rfl, rfl, by decide +kernel, (am_m6 177 rfl rfl)⟩
set_option maxRecDepth 100000 in
theorem am_cm66 : am_cP 66 := ⟨rfl, rfl, by decide +kernel, (am_m7 198 rfl rfl)⟩
set_option maxRecDepth 100000 in
theorem am_cm67 : am_cP 67 := ⟨rfl, rfl, by decide +kernel, ⟨am_m5 235 rfl rfl, am_m0 33 rfl rfl⟩⟩
set_option maxRecDepth 100000 in
theorem am_cm68 : am_cP 68 := ⟨rfl, rfl, by decide +kernel, ⟨am_m7 127 rfl rfl, am_m0 60 rfl rfl⟩⟩
set_option maxRecDepth 100000 in
theorem am_cm69 : am_cP 69 := ⟨rfl, rfl, by decide +kernel, ⟨am_m6 196 rfl rfl, am_m6 197 rfl rfl⟩⟩
set_option maxRecDepth 100000 in
theorem am_cm70 : am_cP 70 := ⟨rfl, rfl, by decide +kernel, ⟨am_m6 205 rfl rfl, am_m0 36 rfl rfl⟩⟩
set_option maxRecDepth 100000 in
theorem am_cm71 : am_cP 71 := ⟨rfl, rfl, by decide +kernel, (am_m6 224 rfl rfl)⟩
set_option maxRecDepth 100000 in
theorem am_cm72 : am_cP 72 := ⟨rfl, rfl, by decide +kernel, ⟨am_m7 61 rfl rfl, am_m0 48 rfl rfl⟩⟩
set_option maxRecDepth 100000 in
theorem am_cm73 : am_cP 73 := ⟨rfl, rfl, by decide +kernel, ⟨am_m7 22 rfl rfl, am_m0 39 rfl rfl⟩⟩
set_option maxRecDepth 100000 in
theorem am_cm74 : am_cP 74 := ⟨rfl, rfl, by decide +kernel, ⟨am_m7 30 rfl rfl, am_m0 41 rfl rfl⟩⟩
set_option maxRecDepth 100000 in
theorem am_cm75 : am_cP 75 := ⟨rfl, rfl, by decide +kernel, ⟨am_m7 46 rfl rfl, am_m0 45 rfl rfl⟩⟩
set_option maxRecDepth 100000 in
theorem am_cm76 : am_cP 76 := ⟨rfl, rfl, by decide +kernel, ⟨am_m7 34 rfl rfl, am_m0 42 rfl rfl⟩⟩
set_option maxRecDepth 100000 in
theorem am_cm77 : am_cP 77 := ⟨rfl, rfl, by decide +kernel, ⟨am_m7 54 rfl rfl, am_m0 47 rfl rfl⟩⟩
set_option maxRecDepth 100000 in
theorem am_cm78 : am_cP 78 := ⟨rfl, rfl, by decide +kernel, (am_m7 72 rfl rfl)⟩
set_option maxRecDepth 100000 in
theorem am_cm79 : am_cP 79 := ⟨rfl, rfl, by decide +kernel, (am_m7 57 rfl rfl)⟩
set_option maxRecDepth 100000 in
theorem am_cm80 : am_cP 80 := ⟨rfl, rfl, by decide +kernel, ⟨am_m7 42 rfl rfl, am_m0 44 rfl rfl⟩⟩
set_option maxRecDepth 100000 in
theorem am_cm81 : am_cP 81 := ⟨rfl, rfl, by decide +kernel, (am_m7 79 rfl rfl)⟩
set_option maxRecDepth 100000 in
theorem am_cm82 : am_cP 82 := ⟨rfl, rfl, by decide +kernel, ⟨am_m7 99 rfl rfl, am_m0 56 rfl rfl⟩⟩
set_option maxRecDepth 100000 in
theorem am_cm83 : am_cP 83 := ⟨rfl, rfl, by decide +kernel, ⟨am_m7 114 rfl rfl, am_m7 115 rfl rfl⟩⟩
set_option maxRecDepth 100000 in
theorem am_cm84 : am_cP 84 := ⟨rfl, rfl, by decide +kernel, (am_m7 170 rfl rfl)⟩
set_option maxRecDepth 100000 in
theorem am_cm85 : am_cP 85 := ⟨rfl, rfl, by decide +kernel, (am_m7 162 rfl rfl)⟩
set_option maxRecDepth 100000 in
theorem am_cm86 : am_cP 86 := ⟨rfl, rfl, by decide +kernel, ⟨am_m7 151 rfl rfl, am_m0 66 rfl rfl⟩⟩
set_option maxRecDepth 100000 in
theorem am_cm87 : am_cP 87 := ⟨rfl, rfl, by decide +kernel, (am_m7 175 rfl rfl)⟩
set_option maxRecDepth 100000 in
theorem am_cm88 : am_cP 88 := ⟨rfl, rfl, by decide +kernel, ⟨am_m7 135 rfl rfl, am_m0 62 rfl rfl⟩⟩
set_option maxRecDepth 100000 in
theorem am_cm89 : am_cP 89 := ⟨rfl, rfl, by decide +kernel, ⟨am_m7 202 rfl rfl, am_m0 74 rfl rfl⟩⟩
set_option maxRecDepth 100000 in
theorem am_cm90 : am_cP 90 := ⟨rfl, rfl, by decide +kernel, ⟨am_m7 155 rfl rfl, am_m0 67 rfl rfl⟩⟩
set_option maxRecDepth 100000 in
theorem am_cm91 : am_cP 91 := ⟨rfl, rfl, by decide +kernel, ⟨am_m7 206 rfl rfl, am_m0 75 rfl rfl⟩⟩
set_option maxRecDepth 100000 in
theorem am_cm92 : am_cP 92 := ⟨rfl, rfl, by decide +kernel, ⟨am_m8 42 rfl rfl, am_m0 86 rfl rfl⟩⟩
set_option maxRecDepth 100000 in
theorem am_cm93 : am_cP 93 := ⟨rfl, rfl, by decide +kernel, ⟨am_m8 90 rfl rfl, am_m0 88 rfl rfl⟩⟩
set_option maxRecDepth 100000 in
theorem am_cm94 : am_cP 94 := ⟨rfl, rfl, by decide +kernel, (am_m8 122 rfl rfl)⟩
set_option maxRecDepth 100000 in
theorem am_cm95 : am_cP 95 := ⟨rfl, rfl, by decide +kernel, (am_m8 150 rfl rfl)⟩
set_option maxRecDepth 100000 in
theorem am_cm96 : am_cP 96 := ⟨rfl, rfl, by decide +kernel, ⟨am_m8 163 rfl rfl, am_m0 96 rfl rfl⟩⟩
set_option maxRecDepth 100000 in
theorem am_cm97 : am_cP 97 := ⟨rfl, rfl, by decide +kernel, ⟨am_m8 158 rfl rfl, am_m0 95 rfl rfl⟩⟩
set_option maxRecDepth 100000 in
theorem am_cm98 : am_cP 98 := ⟨rfl, rfl, by decide +kernel, ⟨am_m8 206 rfl rfl, am_m8 207 rfl rfl⟩⟩
set_option maxRecDepth 100000 in
theorem am_cm99 : am_cP 99 := ⟨rfl, rfl, by decide +kernel, (am_m3 123 rfl rfl)⟩
set_option maxRecDepth 100000 in
theorem am_cm100 : am_cP 100 := ⟨rfl, rfl, by decide +kernel, ⟨am_m3 211 rfl rfl, am_m3 212 rfl rfl⟩⟩
set_option maxRecDepth 100000 in
theorem am_cm101 : am_cP 101 := ⟨rfl, rfl, by decide +kernel, ⟨am_m3 221 rfl rfl, am_m3 222 rfl rfl⟩⟩
set_option maxRecDepth 100000 in
theorem am_cm102 : am_cP 102 := ⟨rfl, rfl, by decide +kernel, (am_m4 45 rfl rfl)⟩
set_option maxRecDepth 100000 in
theorem am_cm103 : am_cP 103 := ⟨rfl, rfl, by decide +kernel, (am_m4 50 rfl rfl)⟩
set_option maxRecDepth 100000 in
theorem am_cm104 : am_cP 104 := ⟨rfl, rfl, by decide +kernel, (am_m3 233 rfl rfl)⟩
set_option maxRecDepth 100000 in
theorem am_cm105 : am_cP 105 := ⟨rfl, rfl, by decide +kernel, ⟨am_m2 27 rfl rfl, rfl⟩⟩
set_option maxRecDepth 100000 in
theorem am_cm106 : am_cP 106 := ⟨rfl, rfl, by decide +kernel, ⟨am_m5 33 rfl rfl, am_m5 34 rfl rfl⟩⟩
set_option maxRecDepth 100000 in
theorem am_cm107 : am_cP 107 := ⟨rfl, rfl, by decide +kernel, ⟨am_m2 199 rfl rfl, am_m2 200 rfl rfl⟩⟩
set_option maxRecDepth 100000 in
theorem am_cm108 : am_cP 108 := ⟨rfl, rfl, by decide +kernel, ⟨am_m2 179 rfl rfl, am_m2 180 rfl rfl⟩⟩
set_option maxRecDepth 100000 in
theorem am_cm109 : am_cP 109 := ⟨rfl, rfl, by decide +kernel, ⟨am_m2 159 rfl rfl, am_m2 160 rfl rfl⟩⟩
set_option maxRecDepth 100000 in
theorem am_cm110 : am_cP 110 := ⟨rfl, rfl, by decide +kernel, ⟨am_m4 226 rfl rfl, am_m4 227 rfl rfl⟩⟩
set_option maxRecDepth 100000 in
theorem am_cm111 : am_cP 111 := ⟨rfl, rfl, by decide +kernel, ⟨am_m4 230 rfl rfl, am_m4 231 rfl rfl⟩⟩
set_option maxRecDepth 100000 in
theorem am_cm112 : am_cP 112 := ⟨rfl, rfl, by decide +kernel, ⟨am_m4 205 rfl rfl, am_m4 206 rfl rfl⟩⟩
set_option maxRecDepth 100000 in
theorem am_cm113 : am_cP 113 := ⟨rfl, rfl, by decide +kernel, ⟨am_m5 67 rfl rfl, am_m5 68 rfl rfl⟩⟩
set_option maxRecDepth 100000 in
theorem am_cm114 : am_cP 114 := ⟨rfl, rfl, by decide +kernel, ⟨am_m2 233 rfl rfl, am_m2 234 rfl rfl⟩⟩
set_option maxRecDepth 100000 in
theorem am_cm115 : am_cP 115 := ⟨rfl, rfl, by decide +kernel, ⟨am_m3 16 rfl rfl, am_m3 17 rfl rfl⟩⟩
set_option maxRecDepth 100000 in
theorem am_cm116 : am_cP 116 := ⟨rfl, rfl, by decide +kernel, ⟨am_m3 106 rfl rfl, am_m3 107 rfl rfl⟩⟩
set_option maxRecDepth 100000 in
theorem am_cm117 : am_cP 117 := ⟨rfl, rfl, by decide +kernel, ⟨am_m3 24 rfl rfl, am_m3 25 rfl rfl⟩⟩
set_option maxRecDepth 100000 in
theorem am_cm118 : am_cP 118 := ⟨rfl, rfl, by decide +kernel, ⟨am_m2 207 rfl rfl, am_m2 208 rfl rfl⟩⟩
set_option maxRecDepth 100000 in
theorem am_cm119 : am_cP 119 := ⟨rfl, rfl, by decide +kernel, ⟨am_m3 0 rfl rfl, am_m3 1 rfl rfl⟩⟩
set_option maxRecDepth 100000 in
theorem am_cm120 : am_cP 120 := ⟨rfl, rfl, by decide +kernel, ⟨am_m3 20 rfl rfl, am_m3 21 rfl rfl⟩⟩
set_option maxRecDepth 100000 in
theorem am_cm121 : am_cP 121 := ⟨rfl, rfl, by decide +kernel, ⟨am_m3 77 rfl rfl, am_m3 78 rfl rfl⟩⟩
set_option maxRecDepth 100000 in
theorem am_cm122 : am_cP 122 := ⟨rfl, rfl, by decide +kernel, ⟨am_m3 152 rfl rfl, am_m3 153 rfl rfl⟩⟩
set_option maxRecDepth 100000 in
theorem am_cm123 : am_cP 123 := ⟨rfl, rfl, by decide +kernel, ⟨am_m3 45 rfl rfl, am_m0 2 rfl rfl⟩⟩
set_option maxRecDepth 100000 in
theorem am_cm124 : am_cP 124 := ⟨rfl, rfl, by decide +kernel, ⟨am_m5 165 rfl rfl, am_m0 28 rfl rfl⟩⟩
set_option maxRecDepth 100000 in
theorem am_cm125 : am_cP 125 := ⟨rfl, rfl, by decide +kernel, ⟨am_m5 147 rfl rfl, am_m0 26 rfl rfl⟩⟩
set_option maxRecDepth 100000 in
theorem am_cm126 : am_cP 126 := ⟨rfl, rfl, by decide +kernel, ⟨am_m4 150 rfl rfl, am_m0 18 rfl rfl⟩⟩
set_option maxRecDepth 100000 in
theorem am_cm127 : am_cP 127 := ⟨rfl, rfl, by decide +kernel, ⟨am_m4 142 rfl rfl, am_m0 17 rfl rfl⟩⟩
set_option maxRecDepth 100000 in
theorem am_cm128 : am_cP 128 := ⟨rfl, rfl, by decide +kernel, ⟨am_m4 122 rfl rfl, am_m0 13 rfl rfl⟩⟩
set_option maxRecDepth 100000 in
theorem am_cm129 : am_cP 129 := ⟨rfl, rfl, by decide +kernel, ⟨am_m5 77 rfl rfl, am_m0 23 rfl rfl⟩⟩
set_option maxRecDepth 100000 in
theorem am_cm130 : am_cP 130 := ⟨rfl, rfl, by decide +kernel, ⟨am_m5 116 rfl rfl, am_m5 117 rfl rfl⟩⟩
set_option maxRecDepth 100000 in
theorem am_cm131 : am_cP 131 := ⟨rfl, rfl, by decide +kernel, ⟨am_m5 190 rfl rfl, am_m0 32 rfl rfl⟩⟩
set_option maxRecDepth 100000 in
theorem am_cm132 : am_cP 132 := ⟨rfl, rfl, by decide +kernel, ⟨am_m1 206 rfl rfl, rfl⟩⟩
set_option maxRecDepth 100000 in
theorem am_cm133 : am_cP 133 := ⟨rfl, rfl, by decide +kernel, ⟨am_m5 216 rfl rfl, am_m5 217 rfl rfl⟩⟩
set_option maxRecDepth 100000 in
theorem am_cm134 : am_cP 134 := ⟨rfl, rfl, by decide +kernel, ⟨am_m2 219 rfl rfl, am_m2 220 rfl rfl⟩⟩
set_option maxRecDepth 100000 in
theorem am_cm135 : am_cP 135 := ⟨rfl, rfl, by decide +kernel, ⟨am_m4 197 rfl rfl, am_m4 198 rfl rfl⟩⟩
set_option maxRecDepth 100000 in
theorem am_cm136 : am_cP 136 := ⟨rfl, rfl, by decide +kernel, ⟨am_m2 147 rfl rfl, am_m2 148 rfl rfl⟩⟩
set_option maxRecDepth 100000 in
theorem am_cm137 : am_cP 137 := ⟨rfl, rfl, by decide +kernel, ⟨am_m2 167 rfl rfl, am_m2 168 rfl rfl⟩⟩
set_option maxRecDepth 100000 in
theorem am_cm138 : am_cP 138 := ⟨rfl, rfl, by decide +kernel, ⟨am_m3 172 rfl rfl, am_m3 173 rfl rfl⟩⟩
set_option maxRecDepth 100000 in
theorem am_cm139 : am_cP 139 := ⟨rfl, rfl, by decide +kernel, ⟨am_m4 162 rfl rfl, am_m4 163 rfl rfl⟩⟩
set_option maxRecDepth 100000 in
theorem am_cm140 : am_cP 140 := ⟨rfl, rfl, by decide +kernel, ⟨am_m5 51 rfl rfl, am_m5 52 rfl rfl⟩⟩
set_option maxRecDepth 100000 in
theorem am_cm141 : am_cP 141 := ⟨rfl, rfl, by decide +kernel, ⟨am_m5 104 rfl rfl, am_m5 105 rfl rfl⟩⟩
set_option maxRecDepth 100000 in
theorem am_cm142 : am_cP 142 := ⟨rfl, rfl, by decide +kernel, ⟨am_m5 230 rfl rfl, rfl⟩⟩
set_option maxRecDepth 100000 in
theorem am_cm143 : am_cP 143 := ⟨rfl, rfl, by decide +kernel, ⟨am_m6 174 rfl rfl, am_m0 34 rfl rfl⟩⟩
set_option maxRecDepth 100000 in
theorem am_cm144 : am_cP 144 := ⟨rfl, rfl, by decide +kernel, ⟨am_m7 222 rfl rfl, am_m0 78 rfl rfl⟩⟩
set_option maxRecDepth 100000 in
theorem am_cm145 : am_cP 145 := ⟨rfl, rfl, by decide +kernel, ⟨am_m6 189 rfl rfl, am_m0 35 rfl rfl⟩⟩
set_option maxRecDepth 100000 in
theorem am_cm146 : am_cP 146 := ⟨rfl, rfl, by decide +kernel, ⟨am_m6 162 rfl rfl, am_m6 163 rfl rfl⟩⟩
set_option maxRecDepth 100000 in
theorem am_cm147 : am_cP 147 := ⟨rfl, rfl, by decide +kernel, ⟨am_m6 180 rfl rfl, am_m6 181 rfl rfl⟩⟩
set_option maxRecDepth 100000 in
theorem am_cm148 : am_cP 148 := ⟨rfl, rfl, by decide +kernel, ⟨am_m6 192 rfl rfl, am_m6 193 rfl rfl⟩⟩
set_option maxRecDepth 100000 in
theorem am_cm149 : am_cP 149 := ⟨rfl, rfl, by decide +kernel, ⟨am_m6 200 rfl rfl, am_m6 201 rfl rfl⟩⟩
set_option maxRecDepth 100000 in
theorem am_cm150 : am_cP 150 := ⟨rfl, rfl, by decide +kernel, ⟨am_m6 208 rfl rfl, am_m6 209 rfl rfl⟩⟩
set_option maxRecDepth 100000 in
theorem am_cm151 : am_cP 151 := ⟨rfl, rfl, by decide +kernel, (am_m6 220 rfl rfl)⟩
set_option maxRecDepth 100000 in
theorem am_cm152 : am_cP 152 := ⟨rfl, rfl, by decide +kernel, ⟨am_m7 76 rfl rfl, am_m0 51 rfl rfl⟩⟩
set_option maxRecDepth 100000 in
theorem am_cm153 : am_cP 153 := ⟨rfl, rfl, by decide +kernel, ⟨am_m7 50 rfl rfl, am_m0 46 rfl rfl⟩⟩
set_option maxRecDepth 100000 in
theorem am_cm154 : am_cP 154 := ⟨rfl, rfl, by decide +kernel, ⟨am_m7 83 rfl rfl, am_m0 52 rfl rfl⟩⟩
set_option maxRecDepth 100000 in
theorem am_cm155 : am_cP 155 := ⟨rfl, rfl, by decide +kernel, (am_m7 167 rfl rfl)⟩
set_option maxRecDepth 100000 in
theorem am_cm156 : am_cP 156 := ⟨rfl, rfl, by decide +kernel, ⟨am_m7 118 rfl rfl, am_m7 119 rfl rfl⟩⟩
set_option maxRecDepth 100000 in
theorem am_cm157 : am_cP 157 := ⟨rfl, rfl, by decide +kernel, ⟨am_m7 183 rfl rfl, am_m0 70 rfl rfl⟩⟩
set_option maxRecDepth 100000 in
theorem am_cm158 : am_cP 158 := ⟨rfl, rfl, by decide +kernel, ⟨am_m8 10 rfl rfl, am_m0 83 rfl rfl⟩⟩
set_option maxRecDepth 100000 in
theorem am_cm159 : am_cP 159 := ⟨rfl, rfl, by decide +kernel, ⟨am_m8 26 rfl rfl, am_m0 84 rfl rfl⟩⟩
set_option maxRecDepth 100000 in
theorem am_cm160 : am_cP 160 := ⟨rfl, rfl, by decide +kernel, ⟨am_m8 110 rfl rfl, am_m0 91 rfl rfl⟩⟩
set_option maxRecDepth 100000 in
theorem am_cm161 : am_cP 161 := ⟨rfl, rfl, by decide +kernel, (am_m8 119 rfl rfl)⟩
set_option maxRecDepth 100000 in
theorem am_cm162 : am_cP 162 := ⟨rfl, rfl, by decide +kernel, ⟨am_m8 147 rfl rfl, am_m0 93 rfl rfl⟩⟩
set_option maxRecDepth 100000 in
theorem am_cm163 : am_cP 163 := ⟨rfl, rfl, by decide +kernel, ⟨am_m8 154 rfl rfl, am_m0 94 rfl rfl⟩⟩
set_option maxRecDepth 100000 in
theorem am_cm164 : am_cP 164 := ⟨rfl, rfl, by decide +kernel, ⟨am_m8 171 rfl rfl, am_m0 97 rfl rfl⟩⟩
set_option maxRecDepth 100000 in
theorem am_cm165 : am_cP 165 := ⟨rfl, rfl, by decide +kernel, ⟨am_m8 191 rfl rfl, am_m0 101 rfl rfl⟩⟩
set_option maxRecDepth 100000 in
theorem am_cm166 : am_cP 166 := ⟨rfl, rfl, by decide +kernel, ⟨am_m8 183 rfl rfl, am_m0 99 rfl rfl⟩⟩
set_option maxRecDepth 100000 in
theorem am_cm167 : am_cP 167 := ⟨rfl, rfl, by decide +kernel, ⟨am_m8 198 rfl rfl, am_m8 199 rfl rfl⟩⟩
set_option maxRecDepth 100000 in
theorem am_cm168 : am_cP 168 := ⟨rfl, rfl, by decide +kernel, ⟨am_m8 202 rfl rfl, am_m8 203 rfl rfl⟩⟩
set_option maxRecDepth 100000 in
theorem am_cm169 : am_cP 169 := ⟨rfl, rfl, by decide +kernel, ⟨am_m3 207 rfl rfl, am_m3 208 rfl rfl⟩⟩
set_option maxRecDepth 100000 in
theorem am_cm170 : am_cP 170 := ⟨rfl, rfl, by decide +kernel, (am_m3 228 rfl rfl)⟩
set_option maxRecDepth 100000 in
theorem am_cm171 : am_cP 171 := ⟨rfl, rfl, by decide +kernel, (am_m4 42 rfl rfl)⟩
set_option maxRecDepth 100000 in
theorem am_cm172 : am_cP 172 := ⟨rfl, rfl, by decide +kernel, ⟨am_m3 65 rfl rfl, am_m3 66 rfl rfl⟩⟩
set_option maxRecDepth 100000 in
theorem am_cm173 : am_cP 173 := ⟨rfl, rfl, by decide +kernel, ⟨am_m3 102 rfl rfl, am_m3 103 rfl rfl⟩⟩
set_option maxRecDepth 100000 in
theorem am_cm174 : am_cP 174 := ⟨rfl, rfl, by decide +kernel, ⟨am_m3 28 rfl rfl, am_m3 29 rfl rfl⟩⟩
set_option maxRecDepth 100000 in
theorem am_cm175 : am_cP 175 := ⟨rfl, rfl, by decide +kernel, ⟨am_m5 138 rfl rfl, am_m0 25 rfl rfl⟩⟩
set_option maxRecDepth 100000 in
theorem am_cm176 : am_cP 176 := ⟨rfl, rfl, by decide +kernel, ⟨am_m5 160 rfl rfl, am_m5 161 rfl rfl⟩⟩
set_option maxRecDepth 100000 in
theorem am_cm177 : am_cP 177 := ⟨rfl, rfl, by decide +kernel, ⟨am_m4 138 rfl rfl, am_m0 16 rfl rfl⟩⟩
set_option maxRecDepth 100000 in
theorem am_cm178 : am_cP 178 := ⟨rfl, rfl, by decide +kernel, ⟨am_m4 118 rfl rfl, am_m0 12 rfl rfl⟩⟩
set_option maxRecDepth 100000 in
theorem am_cm179 : am_cP 179 := ⟨rfl, rfl, by decide +kernel, ⟨am_m5 63 rfl rfl, am_m5 64 rfl rfl⟩⟩
set_option maxRecDepth 100000 in
theorem am_cm180 : am_cP 180 := ⟨rfl, rfl, by decide +kernel, ⟨am_m5 186 rfl rfl, am_m0 31 rfl rfl⟩⟩
set_option maxRecDepth 100000 in
theorem am_cm181 : am_cP 181 := ⟨rfl, rfl, by decide +kernel, ⟨am_m1 24 rfl rfl, rfl⟩⟩
set_option maxRecDepth 100000 in
theorem am_cm182 : am_cP 182 := ⟨rfl, rfl, by decide +kernel, ⟨am_m2 155 rfl rfl, am_m2 156 rfl rfl⟩⟩
set_option maxRecDepth 100000 in
theorem am_cm183 : am_cP 183 := ⟨rfl, rfl, by decide +kernel, ⟨am_m2 175 rfl rfl, am_m2 176 rfl rfl⟩⟩
set_option maxRecDepth 100000 in
theorem am_cm184 : am_cP 184 := ⟨rfl, rfl, by decide +kernel, ⟨am_m2 195 rfl rfl, am_m2 196 rfl rfl⟩⟩
set_option maxRecDepth 100000 in
theorem am_cm185 : am_cP 185 := ⟨rfl, rfl, by decide +kernel, ⟨am_m3 72 rfl rfl, am_m3 73 rfl rfl⟩⟩
set_option maxRecDepth 100000 in
theorem am_cm186 : am_cP 186 := ⟨rfl, rfl, by decide +kernel, ⟨am_m3 81 rfl rfl, am_m3 82 rfl rfl⟩⟩
set_option maxRecDepth 100000 in
theorem am_cm187 : am_cP 187 := ⟨rfl, rfl, by decide +kernel, ⟨am_m4 193 rfl rfl, am_m4 194 rfl rfl⟩⟩
set_option maxRecDepth 100000 in
theorem am_cm188 : am_cP 188 := ⟨rfl, rfl, by decide +kernel, ⟨am_m4 221 rfl rfl, am_m4 222 rfl rfl⟩⟩
set_option maxRecDepth 100000 in
theorem am_cm189 : am_cP 189 := ⟨rfl, rfl, by decide +kernel, ⟨am_m5 112 rfl rfl, am_m5 113 rfl rfl⟩⟩
set_option maxRecDepth 100000 in
theorem am_cm190 : am_cP 190 := ⟨rfl, rfl, by decide +kernel, ⟨am_m5 206 rfl rfl, am_m5 207 rfl rfl⟩⟩
set_option maxRecDepth 100000 in
theorem am_cm191 : am_cP 191 := ⟨rfl, rfl, by decide +kernel, ⟨am_m5 220 rfl rfl, am_m5 221 rfl rfl⟩⟩
set_option maxRecDepth 100000 in
theorem am_cm192 : am_cP 192 := ⟨rfl, rfl, by decide +kernel, ⟨am_m6 169 rfl rfl, am_m6 170 rfl rfl⟩⟩
set_option maxRecDepth 100000 in
theorem am_cm193 : am_cP 193 := ⟨rfl, rfl, by decide +kernel, ⟨am_m6 184 rfl rfl, am_m6 185 rfl rfl⟩⟩
set_option maxRecDepth 100000 in
theorem am_cm194 : am_cP 194 := ⟨rfl, rfl, by decide +kernel, ⟨am_m6 217 rfl rfl, am_m0 37 rfl rfl⟩⟩
set_option maxRecDepth 100000 in
theorem am_cm195 : am_cP 195 := ⟨rfl, rfl, by decide +kernel, ⟨am_m7 159 rfl rfl, am_m0 68 rfl rfl⟩⟩
set_option maxRecDepth 100000 in
theorem am_cm196 : am_cP 196 := ⟨rfl, rfl, by decide +kernel, ⟨am_m7 218 rfl rfl, am_m0 77 rfl rfl⟩⟩
set_option maxRecDepth 100000 in
theorem am_cm197 : am_cP 197 := ⟨rfl, rfl, by decide +kernel, ⟨am_m7 226 rfl rfl, am_m0 79 rfl rfl⟩⟩
set_option maxRecDepth 100000 in
theorem am_cm198 : am_cP 198 := ⟨rfl, rfl, by decide +kernel, ⟨am_m8 69 rfl rfl, am_m8 70 rfl rfl⟩⟩
set_option maxRecDepth 100000 in
theorem am_cm199 : am_cP 199 := ⟨rfl, rfl, by decide +kernel, ⟨am_m8 97 rfl rfl, am_m8 98 rfl rfl⟩⟩
set_option maxRecDepth 100000 in
theorem am_cm200 : am_cP 200 := ⟨rfl, rfl, by decide +kernel, ⟨am_m8 106 rfl rfl, am_m0 90 rfl rfl⟩⟩
set_option maxRecDepth 100000 in
theorem am_cm201 : am_cP 201 := ⟨rfl, rfl, by decide +kernel, ⟨am_m8 134 rfl rfl, am_m0 92 rfl rfl⟩⟩
set_option maxRecDepth 100000 in
theorem am_cm202 : am_cP 202 := ⟨rfl, rfl, by decide +kernel, ⟨am_m8 141 rfl rfl, am_m8 142 rfl rfl⟩⟩
set_option maxRecDepth 100000 in
theorem am_cm203 : am_cP 203 := ⟨rfl, rfl, by decide +kernel, ⟨am_m8 166 rfl rfl, am_m8 167 rfl rfl⟩⟩
set_option maxRecDepth 100000 in
theorem am_cm204 : am_cP 204 := ⟨rfl, rfl, by decide +kernel, ⟨am_m8 187 rfl rfl, am_m0 100 rfl rfl⟩⟩
set_option maxRecDepth 100000 in
theorem am_cm205 : am_cP 205 := ⟨rfl, rfl, by decide +kernel, ⟨am_m4 37 rfl rfl, am_m4 38 rfl rfl⟩⟩
set_option maxRecDepth 100000 in
theorem am_cm206 : am_cP 206 := ⟨rfl, rfl, by decide +kernel, (am_m3 225 rfl rfl)⟩
set_option maxRecDepth 100000 in
theorem am_cm207 : am_cP 207 := ⟨rfl, rfl, by decide +kernel, ⟨am_m3 12 rfl rfl, am_m3 13 rfl rfl⟩⟩
set_option maxRecDepth 100000 in
theorem am_cm208 : am_cP 208 := ⟨rfl, rfl, by decide +kernel, ⟨am_m3 147 rfl rfl, am_m3 148 rfl rfl⟩⟩
set_option maxRecDepth 100000 in
theorem am_cm209 : am_cP 209 := ⟨rfl, rfl, by decide +kernel, ⟨am_m3 118 rfl rfl, am_m3 119 rfl rfl⟩⟩
set_option maxRecDepth 100000 in
theorem am_cm210 : am_cP 210 := ⟨rfl, rfl, by decide +kernel, ⟨am_m5 128 rfl rfl, am_m5 129 rfl rfl⟩⟩
set_option maxRecDepth 100000 in
theorem am_cm211 : am_cP 211 := ⟨rfl, rfl, by decide +kernel, ⟨am_m4 114 rfl rfl, am_m0 11 rfl rfl⟩⟩
set_option maxRecDepth 100000 in
theorem am_cm212 : am_cP 212 := ⟨rfl, rfl, by decide +kernel, ⟨am_m3 60 rfl rfl, am_m3 61 rfl rfl⟩⟩
set_option maxRecDepth 100000 in
theorem am_cm213 : am_cP 213 := ⟨rfl, rfl, by decide +kernel, ⟨am_m3 90 rfl rfl, am_m3 91 rfl rfl⟩⟩
set_option maxRecDepth 100000 in
theorem am_cm214 : am_cP 214 := ⟨rfl, rfl, by decide +kernel, ⟨am_m4 214 rfl rfl, am_m4 215 rfl rfl⟩⟩
set_option maxRecDepth 100000 in
theorem am_cm215 : am_cP 215 := ⟨rfl, rfl, by decide +kernel, ⟨am_m5 59 rfl rfl, am_m5 60 rfl rfl⟩⟩
set_option maxRecDepth 100000 in
theorem am_cm216 : am_cP 216 := ⟨rfl, rfl, by decide +kernel, ⟨am_m5 156 rfl rfl, am_m5 157 rfl rfl⟩⟩
set_option maxRecDepth 100000 in
theorem am_cm217 : am_cP 217 := ⟨rfl, rfl, by decide +kernel, ⟨am_m7 26 rfl rfl, am_m0 40 rfl rfl⟩⟩
set_option maxRecDepth 100000 in
theorem am_cm218 : am_cP 218 := ⟨rfl, rfl, by decide +kernel, ⟨am_m7 69 rfl rfl, am_m0 50 rfl rfl⟩⟩
set_option maxRecDepth 100000 in
theorem am_cm219 : am_cP 219 := ⟨rfl, rfl, by decide +kernel, ⟨am_m7 87 rfl rfl, am_m0 53 rfl rfl⟩⟩
set_option maxRecDepth 100000 in
theorem am_cm220 : am_cP 220 := ⟨rfl, rfl, by decide +kernel, ⟨am_m7 107 rfl rfl, am_m0 58 rfl rfl⟩⟩
set_option maxRecDepth 100000 in
theorem am_cm221 : am_cP 221 := ⟨rfl, rfl, by decide +kernel, ⟨am_m7 195 rfl rfl, am_m0 73 rfl rfl⟩⟩
set_option maxRecDepth 100000 in
theorem am_cm222 : am_cP 222 := ⟨rfl, rfl, by decide +kernel, ⟨am_m7 147 rfl rfl, am_m0 65 rfl rfl⟩⟩
set_option maxRecDepth 100000 in
theorem am_cm223 : am_cP 223 := ⟨rfl, rfl, by decide +kernel, ⟨am_m7 179 rfl rfl, am_m0 69 rfl rfl⟩⟩
set_option maxRecDepth 100000 in
theorem am_cm224 : am_cP 224 := ⟨rfl, rfl, by decide +kernel, ⟨am_m8 2 rfl rfl, am_m0 82 rfl rfl⟩⟩
set_option maxRecDepth 100000 in
theorem am_cm225 : am_cP 225 := ⟨rfl, rfl, by decide +kernel, ⟨am_m7 214 rfl rfl, am_m0 76 rfl rfl⟩⟩
set_option maxRecDepth 100000 in
theorem am_cm226 : am_cP 226 := ⟨rfl, rfl, by decide +kernel, ⟨am_m8 5 rfl rfl, am_m8 6 rfl rfl⟩⟩
set_option maxRecDepth 100000 in
theorem am_cm227 : am_cP 227 := ⟨rfl, rfl, by decide +kernel, ⟨am_m8 13 rfl rfl, am_m8 14 rfl rfl⟩⟩
set_option maxRecDepth 100000 in
theorem am_cm228 : am_cP 228 := ⟨rfl, rfl, by decide +kernel, ⟨am_m8 17 rfl rfl, am_m8 18 rfl rfl⟩⟩
set_option maxRecDepth 100000 in
theorem am_cm229 : am_cP 229 := ⟨rfl, rfl, by decide +kernel, ⟨am_m8 21 rfl rfl, am_m8 22 rfl rfl⟩⟩
set_option maxRecDepth 100000 in
theorem am_cm230 : am_cP 230 := ⟨rfl, rfl, by decide +kernel, ⟨am_m8 101 rfl rfl, am_m8 102 rfl rfl⟩⟩
set_option maxRecDepth 100000 in
theorem am_cm231 : am_cP 231 := ⟨rfl, rfl, by decide +kernel, ⟨am_m8 129 rfl rfl, am_m8 130 rfl rfl⟩⟩
set_option maxRecDepth 100000 in
theorem am_cm232 : am_cP 232 := ⟨rfl, rfl, by decide +kernel, ⟨am_m8 137 rfl rfl, am_m8 138 rfl rfl⟩⟩
set_option maxRecDepth 100000 in
theorem am_cm233 : am_cP 233 := ⟨rfl, rfl, by decide +kernel, ⟨am_m3 217 rfl rfl, am_m3 218 rfl rfl⟩⟩
set_option maxRecDepth 100000 in
theorem am_cm234 : am_cP 234 := ⟨rfl, rfl, by decide +kernel, ⟨am_m4 33 rfl rfl, am_m4 34 rfl rfl⟩⟩
set_option maxRecDepth 100000 in
theorem am_cm235 : am_cP 235 := ⟨rfl, rfl, by decide +kernel, ⟨am_m3 114 rfl rfl, am_m3 115 rfl rfl⟩⟩
set_option maxRecDepth 100000 in
theorem am_cm236 : am_cP 236 := ⟨rfl, rfl, by decide +kernel, ⟨am_m5 27 rfl rfl, am_m5 28 rfl rfl⟩⟩
set_option maxRecDepth 100000 in
theorem am_cm237 : am_cP 237 := ⟨rfl, rfl, by decide +kernel, (am_m4 29 rfl rfl)⟩
set_option maxRecDepth 100000 in
theorem am_cm238 : am_cP 238 := ⟨rfl, rfl, by decide +kernel, (am_m4 15 rfl rfl)⟩
set_option maxRecDepth 100000 in
theorem am_cm239 : am_cP 239 := ⟨rfl, rfl, by decide +kernel, ⟨am_m4 110 rfl rfl, am_m0 10 rfl rfl⟩⟩
set_option maxRecDepth 100000 in
theorem am_cm240 : am_cP 240 := ⟨rfl, rfl, by decide +kernel, ⟨am_m5 89 rfl rfl, am_m5 90 rfl rfl⟩⟩
set_option maxRecDepth 100000 in
theorem am_cm241 : am_cP 241 := ⟨rfl, rfl, by decide +kernel, ⟨am_m5 178 rfl rfl, am_m0 29 rfl rfl⟩⟩
set_option maxRecDepth 100000 in
theorem am_cm242 : am_cP 242 := ⟨rfl, rfl, by decide +kernel, ⟨am_m3 7 rfl rfl, am_m3 8 rfl rfl⟩⟩
set_option maxRecDepth 100000 in
theorem am_cm243 : am_cP 243 := ⟨rfl, rfl, by decide +kernel, ⟨am_m4 201 rfl rfl, am_m4 202 rfl rfl⟩⟩
set_option maxRecDepth 100000 in
theorem am_cm244 : am_cP 244 := ⟨rfl, rfl, by decide +kernel, ⟨am_m5 99 rfl rfl, am_m5 100 rfl rfl⟩⟩
set_option maxRecDepth 100000 in
theorem am_cm245 : am_cP 245 := ⟨rfl, rfl, by decide +kernel, ⟨am_m5 122 rfl rfl, am_m5 123 rfl rfl⟩⟩
set_option maxRecDepth 100000 in
theorem am_cm246 : am_cP 246 := ⟨rfl, rfl, by decide +kernel, ⟨am_m7 18 rfl rfl, am_m0 38 rfl rfl⟩⟩
set_option maxRecDepth 100000 in
theorem am_cm247 : am_cP 247 := ⟨rfl, rfl, by decide +kernel, ⟨am_m7 38 rfl rfl, am_m0 43 rfl rfl⟩⟩
set_option maxRecDepth 100000 in
theorem am_cm248 : am_cP 248 := ⟨rfl, rfl, by decide +kernel, ⟨am_m7 65 rfl rfl, am_m0 49 rfl rfl⟩⟩
set_option maxRecDepth 100000 in
theorem am_cm249 : am_cP 249 := ⟨rfl, rfl, by decide +kernel, ⟨am_m7 91 rfl rfl, am_m0 54 rfl rfl⟩⟩
set_option maxRecDepth 100000 in
theorem am_cm250 : am_cP 250 := ⟨rfl, rfl, by decide +kernel, ⟨am_m7 111 rfl rfl, am_m0 59 rfl rfl⟩⟩
set_option maxRecDepth 100000 in
theorem am_cm251 : am_cP 251 := ⟨rfl, rfl, by decide +kernel, ⟨am_m7 191 rfl rfl, am_m0 72 rfl rfl⟩⟩
set_option maxRecDepth 100000 in
theorem am_cm252 : am_cP 252 := ⟨rfl, rfl, by decide +kernel, ⟨am_m7 143 rfl rfl, am_m0 64 rfl rfl⟩⟩
set_option maxRecDepth 100000 in
theorem am_cm253 : am_cP 253 := ⟨rfl, rfl, by decide +kernel, ⟨am_m7 209 rfl rfl, am_m7 210 rfl rfl⟩⟩
set_option maxRecDepth 100000 in
theorem am_cm254 : am_cP 254 := ⟨rfl, rfl, by decide +kernel, ⟨am_m7 238 rfl rfl, am_m0 81 rfl rfl⟩⟩
set_option maxRecDepth 100000 in
theorem am_cm255 : am_cP 255 := ⟨rfl, rfl, by decide +kernel, ⟨am_m8 65 rfl rfl, am_m8 66 rfl rfl⟩⟩
set_option maxRecDepth 100000 in
theorem am_cm256 : am_cP 256 := ⟨rfl, rfl, by decide +kernel, ⟨am_m3 142 rfl rfl, am_m3 143 rfl rfl⟩⟩
set_option maxRecDepth 100000 in
theorem am_cm257 : am_cP 257 := ⟨rfl, rfl, by decide +kernel, (am_m3 203 rfl rfl)⟩
set_option maxRecDepth 100000 in
theorem am_cm258 : am_cP 258 := ⟨rfl, rfl, by decide +kernel, ⟨am_m4 93 rfl rfl, am_m0 8 rfl rfl⟩⟩
set_option maxRecDepth 100000 in
theorem am_cm259 : am_cP 259 := ⟨rfl, rfl, by decide +kernel, ⟨am_m5 173 rfl rfl, am_m5 174 rfl rfl⟩⟩
set_option maxRecDepth 100000 in
theorem am_cm260 : am_cP 260 := ⟨rfl, rfl, by decide +kernel, ⟨am_m5 201 rfl rfl, am_m5 202 rfl rfl⟩⟩
set_option maxRecDepth 100000 in
theorem am_cm261 : am_cP 261 := ⟨rfl, rfl, by decide +kernel, ⟨am_m3 110 rfl rfl, am_m3 111 rfl rfl⟩⟩
set_option maxRecDepth 100000 in
theorem am_cm262 : am_cP 262 := ⟨rfl, rfl, by decide +kernel, ⟨am_m5 23 rfl rfl, am_m5 24 rfl rfl⟩⟩
set_option maxRecDepth 100000 in
theorem am_cm263 : am_cP 263 := ⟨rfl, rfl, by decide +kernel, ⟨am_m5 84 rfl rfl, am_m5 85 rfl rfl⟩⟩
set_option maxRecDepth 100000 in
theorem am_cm264 : am_cP 264 := ⟨rfl, rfl, by decide +kernel, ⟨am_m7 103 rfl rfl, am_m0 57 rfl rfl⟩⟩
set_option maxRecDepth 100000 in
theorem am_cm265 : am_cP 265 := ⟨rfl, rfl, by decide +kernel, ⟨am_m7 187 rfl rfl, am_m0 71 rfl rfl⟩⟩
set_option maxRecDepth 100000 in
theorem am_cm266 : am_cP 266 := ⟨rfl, rfl, by decide +kernel, ⟨am_m7 234 rfl rfl, am_m0 80 rfl rfl⟩⟩
set_option maxRecDepth 100000 in
theorem am_cm267 : am_cP 267 := ⟨rfl, rfl, by decide +kernel, ⟨am_m8 61 rfl rfl, am_m8 62 rfl rfl⟩⟩
set_option maxRecDepth 100000 in
theorem am_cm268 : am_cP 268 := ⟨rfl, rfl, by decide +kernel, ⟨am_m8 94 rfl rfl, am_m0 89 rfl rfl⟩⟩
set_option maxRecDepth 100000 in
theorem am_cm269 : am_cP 269 := ⟨rfl, rfl, by decide +kernel, ⟨am_m8 113 rfl rfl, am_m8 114 rfl rfl⟩⟩
set_option maxRecDepth 100000 in
theorem am_cm270 : am_cP 270 := ⟨rfl, rfl, by decide +kernel, ⟨am_m8 125 rfl rfl, am_m8 126 rfl rfl⟩⟩
set_option maxRecDepth 100000 in
theorem am_cm271 : am_cP 271 := ⟨rfl, rfl, by decide +kernel, ⟨am_m8 179 rfl rfl, am_m0 98 rfl rfl⟩⟩
set_option maxRecDepth 100000 in
theorem am_cm272 : am_cP 272 := ⟨rfl, rfl, by decide +kernel, ⟨am_m3 160 rfl rfl, am_m3 161 rfl rfl⟩⟩
set_option maxRecDepth 100000 in
theorem am_cm273 : am_cP 273 := ⟨rfl, rfl, by decide +kernel, ⟨am_m4 238 rfl rfl, am_m4 239 rfl rfl⟩⟩
set_option maxRecDepth 100000 in
theorem am_cm274 : am_cP 274 := ⟨rfl, rfl, by decide +kernel, ⟨am_m5 9 rfl rfl, am_m5 10 rfl rfl⟩⟩
set_option maxRecDepth 100000 in
theorem am_cm275 : am_cP 275 := ⟨rfl, rfl, by decide +kernel, ⟨am_m5 18 rfl rfl, am_m5 19 rfl rfl⟩⟩
set_option maxRecDepth 100000 in
theorem am_cm276 : am_cP 276 := ⟨rfl, rfl, by decide +kernel, ⟨am_m3 197 rfl rfl, am_m0 5 rfl rfl⟩⟩
set_option maxRecDepth 100000 in
theorem am_cm277 : am_cP 277 := ⟨rfl, rfl, by decide +kernel, ⟨am_m3 138 rfl rfl, am_m0 3 rfl rfl⟩⟩
set_option maxRecDepth 100000 in
theorem am_cm278 : am_cP 278 := ⟨rfl, rfl, by decide +kernel, ⟨am_m4 183 rfl rfl, am_m0 19 rfl rfl⟩⟩
set_option maxRecDepth 100000 in
theorem am_cm279 : am_cP 279 := ⟨rfl, rfl, by decide +kernel, ⟨am_m5 169 rfl rfl, am_m5 170 rfl rfl⟩⟩
set_option maxRecDepth 100000 in
theorem am_cm280 : am_cP 280 := ⟨rfl, rfl, by decide +kernel, ⟨am_m5 197 rfl rfl, am_m5 198 rfl rfl⟩⟩
set_option maxRecDepth 100000 in
theorem am_cm281 : am_cP 281 := ⟨rfl, rfl, by decide +kernel, ⟨am_m7 95 rfl rfl, am_m0 55 rfl rfl⟩⟩
set_option maxRecDepth 100000 in
theorem am_cm282 : am_cP 282 := ⟨rfl, rfl, by decide +kernel, ⟨am_m7 139 rfl rfl, am_m0 63 rfl rfl⟩⟩
set_option maxRecDepth 100000 in
theorem am_cm283 : am_cP 283 := ⟨rfl, rfl, by decide +kernel, ⟨am_m7 229 rfl rfl, am_m7 230 rfl rfl⟩⟩
set_option maxRecDepth 100000 in
theorem am_cm284 : am_cP 284 := ⟨rfl, rfl, by decide +kernel, ⟨am_m8 29 rfl rfl, am_m8 30 rfl rfl⟩⟩
set_option maxRecDepth 100000 in
theorem am_cm285 : am_cP 285 := ⟨rfl, rfl, by decide +kernel, ⟨am_m8 85 rfl rfl, am_m8 86 rfl rfl⟩⟩
set_option maxRecDepth 100000 in
theorem am_cm286 : am_cP 286 := ⟨rfl, rfl, by decide +kernel, ⟨am_m8 174 rfl rfl, am_m8 175 rfl rfl⟩⟩
set_option maxRecDepth 100000 in
theorem am_cm287 : am_cP 287 := ⟨rfl, rfl, by decide +kernel, ⟨am_m8 194 rfl rfl, am_m8 195 rfl rfl⟩⟩
set_option maxRecDepth 100000 in
theorem am_cm288 : am_cP 288 := ⟨rfl, rfl, by decide +kernel, ⟨am_m3 188 rfl rfl, am_m3 189 rfl rfl⟩⟩
set_option maxRecDepth 100000 in
theorem am_cm289 : am_cP 289 := ⟨rfl, rfl, by decide +kernel, ⟨am_m3 133 rfl rfl, am_m3 134 rfl rfl⟩⟩
set_option maxRecDepth 100000 in
theorem am_cm290 : am_cP 290 := ⟨rfl, rfl, by decide +kernel, ⟨am_m3 156 rfl rfl, am_m3 157 rfl rfl⟩⟩
set_option maxRecDepth 100000 in
theorem am_cm291 : am_cP 291 := ⟨rfl, rfl, by decide +kernel, ⟨am_m4 170 rfl rfl, am_m4 171 rfl rfl⟩⟩
set_option maxRecDepth 100000 in
theorem am_cm292 : am_cP 292 := ⟨rfl, rfl, by decide +kernel, ⟨am_m4 234 rfl rfl, am_m4 235 rfl rfl⟩⟩
set_option maxRecDepth 100000 in
theorem am_cm293 : am_cP 293 := ⟨rfl, rfl, by decide +kernel, ⟨am_m5 5 rfl rfl, am_m5 6 rfl rfl⟩⟩
set_option maxRecDepth 100000 in
theorem am_cm294 : am_cP 294 := ⟨rfl, rfl, by decide +kernel, ⟨am_m5 14 rfl rfl, am_m5 15 rfl rfl⟩⟩
set_option maxRecDepth 100000 in
theorem am_cm295 : am_cP 295 := ⟨rfl, rfl, by decide +kernel, ⟨am_m6 212 rfl rfl, am_m6 213 rfl rfl⟩⟩
set_option maxRecDepth 100000 in
theorem am_cm296 : am_cP 296 := ⟨rfl, rfl, by decide +kernel, ⟨am_m7 131 rfl rfl, am_m0 61 rfl rfl⟩⟩
set_option maxRecDepth 100000 in
theorem am_cm297 : am_cP 297 := ⟨rfl, rfl, by decide +kernel, ⟨am_m8 73 rfl rfl, am_m8 74 rfl rfl⟩⟩
set_option maxRecDepth 100000 in
theorem am_cm298 : am_cP 298 := ⟨rfl, rfl, by decide +kernel, ⟨am_m8 77 rfl rfl, am_m8 78 rfl rfl⟩⟩
set_option maxRecDepth 100000 in
theorem am_cm299 : am_cP 299 := ⟨rfl, rfl, by decide +kernel, ⟨am_m8 81 rfl rfl, am_m8 82 rfl rfl⟩⟩
set_option maxRecDepth 100000 in
theorem am_cm300 : am_cP 300 := ⟨rfl, rfl, by decide +kernel, ⟨am_m3 184 rfl rfl, am_m3 185 rfl rfl⟩⟩
set_option maxRecDepth 100000 in
theorem am_cm301 : am_cP 301 := ⟨rfl, rfl, by decide +kernel, ⟨am_m7 122 rfl rfl, am_m7 123 rfl rfl⟩⟩
set_option maxRecDepth 100000 in
theorem am_cm302 : am_cP 302 := ⟨rfl, rfl, by decide +kernel, ⟨am_m8 38 rfl rfl, am_m0 85 rfl rfl⟩⟩
set_option maxRecDepth 100000 in
theorem am_cm303 : am_cP 303 := ⟨rfl, rfl, by decide +kernel, ⟨am_m8 33 rfl rfl, am_m8 34 rfl rfl⟩⟩
set_option maxRecDepth 100000 in
theorem am_cm304 : am_cP 304 := ⟨rfl, rfl, by decide +kernel, ⟨am_m8 57 rfl rfl, am_m0 87 rfl rfl⟩⟩
set_option maxRecDepth 100000 in
theorem am_cm305 : am_cP 305 := ⟨rfl, rfl, by decide +kernel, ⟨am_m8 45 rfl rfl, am_m8 46 rfl rfl⟩⟩
theorem am_cg0 : ∀ z ∈ [0, 1, 2, 3, 4, 5, 6, 7, 8, 9, 10, 11, 12, 13, 14, 15], am_cP z := List.forall_mem_cons.mpr ⟨am_cm0, List.forall_mem_cons.mpr ⟨am_cm1, List.forall_mem_cons.mpr ⟨am_cm2, List.forall_mem_cons.mpr ⟨am_cm3, List.forall_mem_cons.mpr ⟨am_cm4, List.forall_mem_cons.mpr ⟨am_cm5, List.forall_mem_cons.mpr ⟨am_cm6, List.forall_mem_cons.mpr ⟨am_cm7, List.forall_mem_cons.mpr ⟨am_cm8, List.forall_mem_cons.mpr ⟨am_cm9, List.forall_mem_cons.mpr ⟨am_cm10, List.forall_mem_cons.mpr ⟨am_cm11, List.forall_mem_cons.mpr ⟨am_cm12, List.forall_mem_cons.mpr ⟨am_cm13, List.forall_mem_cons.mpr ⟨am_cm14, List.forall_mem_cons.mpr ⟨am_cm15, fun _ h => absurd h List.not_mem_nil⟩⟩⟩⟩⟩⟩⟩⟩⟩⟩⟩⟩⟩⟩⟩⟩
theorem am_cg1 : ∀ z ∈ [16, 17, 18, 19, 20, 21, 22, 23, 24, 25, 26, 27, 28, 29, 30, 31], am_cP z := List.forall_mem_cons.mpr ⟨am_cm16, List.forall_mem_cons.mpr ⟨am_cm17, List.forall_mem_cons.mpr ⟨am_cm18, List.forall_mem_cons.mpr ⟨am_cm19, List.forall_mem_cons.mpr ⟨am_cm20, List.forall_mem_cons.mpr ⟨am_cm21, List.forall_mem_cons.mpr ⟨am_cm22, List.forall_mem_cons.mpr ⟨am_cm23, List.forall_mem_cons.mpr ⟨am_cm24, List.forall_mem_cons.mpr ⟨am_cm25, List.forall_mem_cons.mpr ⟨am_cm26, List.forall_mem_cons.mpr ⟨am_cm27, List.forall_mem_cons.mpr ⟨am_cm28, List.forall_mem_cons.mpr ⟨am_cm29, List.forall_mem_cons.mpr ⟨am_cm30, List.forall_mem_cons.mpr ⟨am_cm31, fun _ h => absurd h List.not_mem_nil⟩⟩⟩⟩⟩⟩⟩⟩⟩⟩⟩⟩⟩⟩⟩⟩
theorem am_cg2 : ∀ z ∈ [32, 33, 34, 35, 36, 37, 38, 39, 40, 41, 42, 43, 44, 45, 46, 47], am_cP z := List.forall_mem_cons.mpr ⟨am_cm32, List.forall_mem_cons.mpr ⟨am_cm33, List.forall_mem_cons.mpr ⟨am_cm34, List.forall_mem_cons.mpr ⟨am_cm35, List.forall_mem_cons.mpr ⟨am_cm36, List.forall_mem_cons.mpr ⟨am_cm37, List.forall_mem_cons.mpr ⟨am_cm38, List.forall_mem_cons.mpr ⟨am_cm39, List.forall_mem_cons.mpr ⟨am_cm40, List.forall_mem_cons.mpr ⟨am_cm41, List.forall_mem_cons.mpr ⟨am_cm42, List.forall_mem_cons.mpr ⟨am_cm43, List.forall_mem_cons.mpr ⟨am_cm44, List.forall_mem_cons.mpr ⟨am_cm45, List.forall_mem_cons.mpr ⟨am_cm46, List.forall_mem_cons.mpr ⟨am_cm47, fun _ h => absurd h List.not_mem_nil⟩⟩⟩⟩⟩⟩⟩⟩⟩⟩⟩⟩⟩⟩⟩⟩
theorem am_cg3 : ∀ z ∈ [48, 49, 50, 51, 52, 53, 54, 55, 56, 57, 58, 59, 60, 61, 62, 63], am_cP z := List.forall_mem_cons.mpr ⟨am_cm48, List.forall_mem_cons.mpr ⟨am_cm49, List.forall_mem_cons.mpr ⟨am_cm50, List.forall_mem_cons.mpr ⟨am_cm51, List.forall_mem_cons.mpr ⟨am_cm52, List.forall_mem_cons.mpr ⟨am_cm53, List.forall_mem_cons.mpr ⟨am_cm54, List.forall_mem_cons.mpr ⟨am_cm55, List.forall_mem_cons.mpr ⟨am_cm56, List.forall_mem_cons.mpr ⟨am_cm57, List.forall_mem_cons.mpr ⟨am_cm58, List.forall_mem_cons.mpr ⟨am_cm59, List.forall_mem_cons.mpr ⟨am_cm60, List.forall_mem_cons.mpr ⟨am_cm61, List.forall_mem_cons.mpr ⟨am_cm62, List.forall_mem_cons.mpr ⟨am_cm63, fun _ h => absurd h List.not_mem_nil⟩⟩⟩⟩⟩⟩⟩⟩⟩⟩⟩⟩⟩⟩⟩⟩
theorem am_cg4 : ∀ z ∈ [64, 65, 66, 67, 68, 69, 70, 71, 72, 73, 74, 75, 76, 77, 78, 79], am_cP z := List.forall_mem_cons.mpr ⟨am_cm64, List.forall_mem_cons.mpr ⟨am_cm65, List.forall_mem_cons.mpr ⟨am_cm66, List.forall_mem_cons.mpr ⟨am_cm67, List.forall_mem_cons.mpr ⟨am_cm68, List.forall_mem_cons.mpr ⟨am_cm69, List.forall_mem_cons.mpr ⟨am_cm70, List.forall_mem_cons.mpr ⟨am_cm71, List.forall_mem_cons.mpr ⟨am_cm72, List.forall_mem_cons.mpr ⟨am_cm73, List.forall_mem_cons.mpr ⟨am_cm74, List.forall_mem_cons.mpr ⟨am_cm75, List.forall_mem_cons.mpr ⟨am_cm76, List.forall_mem_cons.mpr ⟨am_cm77, List.forall_mem_cons.mpr ⟨am_cm78, List.forall_mem_cons.mpr ⟨am_cm79, fun _ h => absurd h List.not_mem_nil⟩⟩⟩⟩⟩⟩⟩⟩⟩⟩⟩⟩⟩⟩⟩⟩
theorem am_cg5 : ∀ z ∈ [80, 81, 82, 83, 84, 85, 86, 87, 88, 89, 90, 91, 92, 93, 94, 95], am_cP z := List.forall_mem_cons.mpr ⟨am_cm80, List.forall_mem_cons.mpr ⟨am_cm81, List.forall_mem_cons.mpr ⟨am_cm82, List.forall_mem_cons.mpr ⟨am_cm83, List.forall_mem_cons.mpr ⟨am_cm84, List.forall_mem_cons.mpr ⟨am_cm85, List.forall_mem_cons.mpr ⟨am_cm86, List.forall_mem_cons.mpr ⟨am_cm87, List.forall_mem_cons.mpr ⟨am_cm88, List.forall_mem_cons.mpr ⟨am_cm89, List.forall_mem_cons.mpr ⟨am_cm90, List.forall_mem_cons.mpr ⟨am_cm91, List.forall_mem_cons.mpr ⟨am_cm92, List.forall_mem_cons.mpr ⟨am_cm93, List.forall_mem_cons.mpr ⟨am_cm94, List.forall_mem_cons.mpr ⟨am_cm95, fun _ h => absurd h List.not_mem_nil⟩⟩⟩⟩⟩⟩⟩⟩⟩⟩⟩⟩⟩⟩⟩⟩
theorem am_cg6 : ∀ z ∈ [96, 97, 98, 99, 100, 101, 102, 103, 104, 105, 106, 107, 108, 109, 110, 111], am_cP z := List.forall_mem_cons.mpr ⟨am_cm96, List.forall_mem_cons.mpr ⟨am_cm97, List.forall_mem_cons.mpr ⟨am_cm98, List.forall_mem_cons.mpr ⟨am_cm99, List.forall_mem_cons.mpr ⟨am_cm100, List.forall_mem_cons.mpr ⟨am_cm101, List.forall_mem_cons.mpr ⟨am_cm102, List.forall_mem_cons.mpr ⟨am_cm103, List.forall_mem_cons.mpr ⟨am_cm104, List.forall_mem_cons.mpr ⟨am_cm105, List.forall_mem_cons.mpr ⟨am_cm106, List.forall_mem_cons.mpr ⟨am_cm107, List.forall_mem_cons.mpr ⟨am_cm108, List.forall_mem_cons.mpr ⟨am_cm109, List.forall_mem_cons.mpr ⟨am_cm110, List.forall_mem_cons.mpr ⟨am_cm111, fun _ h => absurd h List.not_mem_nil⟩⟩⟩⟩⟩⟩⟩⟩⟩⟩⟩⟩⟩⟩⟩⟩
theorem am_cg7 : ∀ z ∈ [112, 113, 114, 115, 116, 117, 118, 119, 120, 121, 122, 123, 124, 125, 126, 127], am_cP z := List.forall_mem_cons.mpr ⟨am_cm112, List.forall_mem_cons.mpr ⟨am_cm113, List.forall_mem_cons.mpr ⟨am_cm114, List.forall_mem_cons.mpr ⟨am_cm115, List.forall_mem_cons.mpr ⟨am_cm116, List.forall_mem_cons.mpr ⟨am_cm117, List.forall_mem_cons.mpr ⟨am_cm118, List.forall_mem_cons.mpr ⟨am_cm119, List.forall_mem_cons.mpr ⟨am_cm120, List.forall_mem_cons.mpr ⟨am_cm121, List.forall_mem_cons.mpr ⟨am_cm122, List.forall_mem_cons.mpr ⟨am_cm123, List.forall_mem_cons.mpr ⟨am_cm124, List.forall_mem_cons.mpr ⟨am_cm125, List.forall_mem_cons.mpr ⟨am_cm126, List.forall_mem_cons.mpr ⟨am_cm127, fun _ h => absurd h List.not_mem_nil⟩⟩⟩⟩⟩⟩⟩⟩⟩⟩⟩⟩⟩⟩⟩⟩
theorem am_cg8 : ∀ z ∈ [128, 129, 130, 131, 132, 133, 134, 135, 136, 137, 138, 139, 140, 141, 142, 143], am_cP z := List.forall_mem_cons.mpr ⟨am_cm128, List.forall_mem_cons.mpr ⟨am_cm129, List.forall_mem_cons.mpr ⟨am_cm130, List.forall_mem_cons.mpr ⟨am_cm131, List.forall_mem_cons.mpr ⟨am_cm132, List.forall_mem_cons.mpr ⟨am_cm133, List.forall_mem_cons.mpr ⟨am_cm134, List.forall_mem_cons.mpr ⟨am_cm135, List.forall_mem_cons.mpr ⟨am_cm136, List.forall_mem_cons.mpr ⟨am_cm137, List.forall_mem_cons.mpr ⟨am_cm138, List.forall_mem_cons.mpr ⟨am_cm139, List.forall_mem_cons.mpr ⟨am_cm140, List.forall_mem_cons.mpr ⟨am_cm141, List.forall_mem_cons.mpr ⟨am_cm142, List.forall_mem_cons.mpr ⟨am_cm143, fun _ h => absurd h List.not_mem_nil⟩⟩⟩⟩⟩⟩⟩⟩⟩⟩⟩⟩⟩⟩⟩⟩
theorem am_cg9 : ∀ z ∈ [144, 145, 146, 147, 148, 149, 150, 151, 152, 153, 154, 155, 156, 157, 158, 159], am_cP z := List.forall_mem_cons.mpr ⟨am_cm144, List.forall_mem_cons.mpr ⟨am_cm145, List.forall_mem_cons.mpr ⟨am_cm146, List.forall_mem_cons.mpr ⟨am_cm147, List.forall_mem_cons.mpr ⟨am_cm148, List.forall_mem_cons.mpr ⟨am_cm149, List.forall_mem_cons.mpr ⟨am_cm150, List.forall_mem_cons.mpr ⟨am_cm151, List.forall_mem_cons.mpr ⟨am_cm152, List.forall_mem_cons.mpr ⟨am_cm153, List.forall_mem_cons.mpr ⟨am_cm154, List.forall_mem_cons.mpr ⟨am_cm155, List.forall_mem_cons.mpr ⟨am_cm156, List.forall_mem_cons.mpr ⟨am_cm157, List.forall_mem_cons.mpr ⟨am_cm158, List.forall_mem_cons.mpr ⟨am_cm159, fun _ h => absurd h List.not_mem_nil⟩⟩⟩⟩⟩⟩⟩⟩⟩⟩⟩⟩⟩⟩⟩⟩
theorem am_cg10 : ∀ z ∈ [160, 161, 162, 163, 164, 165, 166, 167, 168, 169, 170, 171, 172, 173, 174, 175], am_cP z := List.forall_mem_cons.mpr ⟨am_cm160, List.forall_mem_cons.mpr ⟨am_cm161, List.forall_mem_cons.mpr ⟨am_cm162, List.forall_mem_cons.mpr ⟨am_cm163, List.forall_mem_cons.mpr ⟨am_cm164, List.forall_mem_cons.mpr ⟨am_cm165, List.forall_mem_cons.mpr ⟨am_cm166, List.forall_mem_cons.mpr ⟨am_cm167, List.forall_mem_cons.mpr ⟨am_cm168, List.forall_mem_cons.mpr ⟨am_cm169, List.forall_mem_cons.mpr ⟨am_cm170, List.forall_mem_cons.mpr ⟨am_cm171, List.forall_mem_cons.mpr ⟨am_cm172, List.forall_mem_cons.mpr ⟨am_cm173, List.forall_mem_cons.mpr ⟨am_cm174, List.forall_mem_cons.mpr ⟨am_cm175, fun _ h => absurd h List.not_mem_nil⟩⟩⟩⟩⟩⟩⟩⟩⟩⟩⟩⟩⟩⟩⟩⟩
theorem am_cg11 : ∀ z ∈ [176, 177, 178, 179, 180, 181, 182, 183, 184, 185, 186, 187, 188, 189, 190, 191], am_cP z := List.forall_mem_cons.mpr ⟨am_cm176, List.forall_mem_cons.mpr ⟨am_cm177, List.forall_mem_cons.mpr ⟨am_cm178, List.forall_mem_cons.mpr ⟨am_cm179, List.forall_mem_cons.mpr ⟨am_cm180, List.forall_mem_cons.mpr ⟨am_cm181, List.forall_mem_cons.mpr ⟨am_cm182, List.forall_mem_cons.mpr ⟨am_cm183, List.forall_mem_cons.mpr ⟨am_cm184, List.forall_mem_cons.mpr ⟨am_cm185, List.forall_mem_cons.mpr ⟨am_cm186, List.forall_mem_cons.mpr ⟨am_cm187, List.forall_mem_cons.mpr ⟨am_cm188, List.forall_mem_cons.mpr ⟨am_cm189, List.forall_mem_cons.mpr ⟨am_cm190, List.forall_mem_cons.mpr ⟨am_cm191, fun _ h => absurd h List.not_mem_nil⟩⟩⟩⟩⟩⟩⟩⟩⟩⟩⟩⟩⟩⟩⟩⟩
theorem am_cg12 : ∀ z ∈ [192, 193, 194, 195, 196, 197, 198, 199, 200, 201, 202, 203, 204, 205, 206, 207], am_cP z := List.forall_mem_cons.mpr ⟨am_cm192, List.forall_mem_cons.mpr ⟨am_cm193, List.forall_mem_cons.mpr ⟨am_cm194, List.forall_mem_cons.mpr ⟨am_cm195, List.forall_mem_cons.mpr ⟨am_cm196, List.forall_mem_cons.mpr ⟨am_cm197, List.forall_mem_cons.mpr ⟨am_cm198, List.forall_mem_cons.mpr ⟨am_cm199, List.forall_mem_cons.mpr ⟨am_cm200, List.forall_mem_cons.mpr ⟨am_cm201, List.forall_mem_cons.mpr ⟨am_cm202, List.forall_mem_cons.mpr ⟨am_cm203, List.forall_mem_cons.mpr ⟨am_cm204, List.forall_mem_cons.mpr ⟨am_cm205, List.forall_mem_cons.mpr ⟨am_cm206, List.forall_mem_cons.mpr ⟨am_cm207, fun _ h => absurd h List.not_mem_nil⟩⟩⟩⟩⟩⟩⟩⟩⟩⟩⟩⟩⟩⟩⟩⟩
theorem am_cg13 : ∀ z ∈ [208, 209, 210, 211, 212, 213, 214, 215, 216, 217, 218, 219, 220, 221, 222, 223], am_cP z := List.forall_mem_cons.mpr ⟨am_cm208, List.forall_mem_cons.mpr ⟨am_cm209, List.forall_mem_cons.mpr ⟨am_cm210, List.forall_mem_cons.mpr ⟨am_cm211, List.forall_mem_cons.mpr ⟨am_cm212, List.forall_mem_cons.mpr ⟨am_cm213, List.forall_mem_cons.mpr ⟨am_cm214, List.forall_mem_cons.mpr ⟨am_cm215, List.forall_mem_cons.mpr ⟨am_cm216, List.forall_mem_cons.mpr ⟨am_cm217, List.forall_mem_cons.mpr ⟨am_cm218, List.forall_mem_cons.mpr ⟨am_cm219, List.forall_mem_cons.mpr ⟨am_cm220, List.forall_mem_cons.mpr ⟨am_cm221, List.forall_mem_cons.mpr ⟨am_cm222, List.forall_mem_cons.mpr ⟨am_cm223, fun _ h => absurd h List.not_mem_nil⟩⟩⟩⟩⟩⟩⟩⟩⟩⟩⟩⟩⟩⟩⟩⟩
theorem am_cg14 : ∀ z ∈ [224, 225, 226, 227, 228, 229, 230, 231, 232, 233, 234, 235, 236, 237, 238, 239], am_cP z := List.forall_mem_cons.mpr ⟨am_cm224, List.forall_mem_cons.mpr ⟨am_cm225, List.forall_mem_cons.mpr ⟨am_cm226, List.forall_mem_cons.mpr ⟨am_cm227, List.forall_mem_cons.mpr ⟨am_cm228, List.forall_mem_cons.mpr ⟨am_cm229, List.forall_mem_cons.mpr ⟨am_cm230, List.forall_mem_cons.mpr ⟨am_cm231, List.forall_mem_cons.mpr ⟨am_cm232, List.forall_mem_cons.mpr ⟨am_cm233, List.forall_mem_cons.mpr ⟨am_cm234, List.forall_mem_cons.mpr ⟨am_cm235, List.forall_mem_cons.mpr ⟨am_cm236, List.forall_mem_cons.mpr ⟨am_cm237, List.forall_mem_cons.mpr ⟨am_cm238, List.forall_mem_cons.mpr ⟨am_cm239, fun _ h => absurd h List.not_mem_nil⟩⟩⟩⟩⟩⟩⟩⟩⟩⟩⟩⟩⟩⟩⟩⟩
theorem am_cg15 : ∀ z ∈ [240, 241, 242, 243, 244, 245, 246, 247, 248, 249, 250, 251, 252, 253, 254, 255], am_cP z := List.forall_mem_cons.mpr ⟨am_cm240, List.forall_mem_cons.mpr ⟨am_cm241, List.forall_mem_cons.mpr ⟨am_cm242, List.forall_mem_cons.mpr ⟨am_cm243, List.forall_mem_cons.mpr ⟨am_cm244, List.forall_mem_cons.mpr ⟨am_cm245, List.forall_mem_cons.mpr ⟨am_cm246, List.forall_mem_cons.mpr ⟨am_cm247, List.forall_mem_cons.mpr ⟨am_cm248, List.forall_mem_cons.mpr ⟨am_cm249, List.forall_mem_cons.mpr ⟨am_cm250, List.forall_mem_cons.mpr ⟨am_cm251, List.forall_mem_cons.mpr ⟨am_cm252, List.forall_mem_cons.mpr ⟨am_cm253, List.forall_mem_cons.mpr ⟨am_cm254, List.forall_mem_cons.mpr ⟨am_cm255, fun _ h => absurd h List.not_mem_nil⟩⟩⟩⟩⟩⟩⟩⟩⟩⟩⟩⟩⟩⟩⟩⟩
theorem am_cg16 : ∀ z ∈ [256, 257, 258, 259, 260, 261, 262, 263, 264, 265, 266, 267, 268, 269, 270, 271], am_cP z := List.forall_mem_cons.mpr ⟨am_cm256, List.forall_mem_cons.mpr ⟨am_cm257, List.forall_mem_cons.mpr ⟨am_cm258, List.forall_mem_cons.mpr ⟨am_cm259, List.forall_mem_cons.mpr ⟨am_cm260, List.forall_mem_cons.mpr ⟨am_cm261, List.forall_mem_cons.mpr ⟨am_cm262, List.forall_mem_cons.mpr ⟨am_cm263, List.forall_mem_cons.mpr ⟨am_cm264, List.forall_mem_cons.mpr ⟨am_cm265, List.forall_mem_cons.mpr ⟨am_cm266, List.forall_mem_cons.mpr ⟨am_cm267, List.forall_mem_cons.mpr ⟨am_cm268, List.forall_mem_cons.mpr ⟨am_cm269, List.forall_mem_cons.mpr ⟨am_cm270, List.forall_mem_cons.mpr ⟨am_cm271, fun _ h => absurd h List.not_mem_nil⟩⟩⟩⟩⟩⟩⟩⟩⟩⟩⟩⟩⟩⟩⟩⟩
theorem am_cg17 : ∀ z ∈ [272, 273, 274, 275, 276, 277, 278, 279, 280, 281, 282, 283, 284, 285, 286, 287], am_cP z := List.forall_mem_cons.mpr ⟨am_cm272, List.forall_mem_cons.mpr ⟨am_cm273, List.forall_mem_cons.mpr ⟨am_cm274, List.forall_mem_cons.mpr ⟨am_cm275, List.forall_mem_cons.mpr ⟨am_cm276, List.forall_mem_cons.mpr ⟨am_cm277, List.forall_mem_cons.mpr ⟨am_cm278, List.forall_mem_cons.mpr ⟨am_cm279, List.forall_mem_cons.mpr ⟨am_cm280, List.forall_mem_cons.mpr ⟨am_cm281, List.forall_mem_cons.mpr ⟨am_cm282, List.forall_mem_cons.mpr ⟨am_cm283, List.forall_mem_cons.mpr ⟨am_cm284, List.forall_mem_cons.mpr ⟨am_cm285, List.forall_mem_cons.mpr ⟨am_cm286, List.forall_mem_cons.mpr ⟨am_cm287, fun _ h => absurd h List.not_mem_nil⟩⟩⟩⟩⟩⟩⟩⟩⟩⟩⟩⟩⟩⟩⟩⟩
theorem am_cg18 : ∀ z ∈ [288, 289, 290, 291, 292, 293, 294, 295, 296, 297, 298, 299, 300, 301, 302, 303], am_cP z := List.forall_mem_cons.mpr ⟨am_cm288, List.forall_mem_cons.mpr ⟨am_cm289, List.forall_mem_cons.mpr ⟨am_cm290, List.forall_mem_cons.mpr ⟨am_cm291, List.forall_mem_cons.mpr ⟨am_cm292, List.forall_mem_cons.mpr ⟨am_cm293, List.forall_mem_cons.mpr ⟨am_cm294, List.forall_mem_cons.mpr ⟨am_cm295, List.forall_mem_cons.mpr ⟨am_cm296, List.forall_mem_cons.mpr ⟨am_cm297, List.forall_mem_cons.mpr ⟨am_cm298, List.forall_mem_cons.mpr ⟨am_cm299, List.forall_mem_cons.mpr ⟨am_cm300, List.forall_mem_cons.mpr ⟨am_cm301, List.forall_mem_cons.mpr ⟨am_cm302, List.forall_mem_cons.mpr ⟨am_cm303, fun _ h => absurd h List.not_mem_nil⟩⟩⟩⟩⟩⟩⟩⟩⟩⟩⟩⟩⟩⟩⟩⟩
theorem am_cg19 : ∀ z ∈ [304, 305], am_cP z := List.forall_mem_cons.mpr ⟨am_cm304, List.forall_mem_cons.mpr ⟨am_cm305, fun _ h => absurd h List.not_mem_nil⟩⟩
theorem am_cms (z : Nat) (h : z < 306) : am_cP z := by
  by_cases h0 : z < 16
  · exact am_cg0 z (by simp only [List.mem_cons, List.not_mem_nil, or_false]; omega)
  by_cases h1 : z < 32
  · exact am_cg1 z (by simp only [List.mem_cons, List.not_mem_nil, or_false]; omega)
  by_cases h2 : z < 48
  · exact am_cg2 z (by simp only [List.mem_cons, List.not_mem_nil, or_false]; omega)
  by_cases h3 : z < 64
  · exact am_cg3 z (by simp only [List.mem_cons, List.not_mem_nil, or_false]; omega)
  by_cases h4 : z < 80
  · exact am_cg4 z (by simp only [List.mem_cons, List.not_mem_nil, or_false]; omega)
  by_cases h5 : z < 96
  · exact am_cg5 z (by simp only [List.mem_cons, List.not_mem_nil, or_false]; omega)
  by_cases h6 : z < 112
  · exact am_cg6 z (by simp only [List.mem_cons, List.not_mem_nil, or_false]; omega)
  by_cases h7 : z < 128
  · exact am_cg7 z (by simp only [List.mem_cons, List.not_mem_nil, or_false]; omega)
  by_cases h8 : z < 144
  · exact am_cg8 z (by simp only [List.mem_cons, List.not_mem_nil, or_false]; omega)
  by_cases h9 : z < 160
  · exact am_cg9 z (by simp only [List.mem_cons, List.not_mem_nil, or_false]; omega)
  by_cases h10 : z < 176
  · exact am_cg10 z (by simp only [List.mem_cons, List.not_mem_nil, or_false]; omega)
  by_cases h11 : z < 192
  · exact am_cg11 z (by simp only [List.mem_cons, List.not_mem_nil, or_false]; omega)
  by_cases h12 : z < 208
  · exact am_cg12 z (by simp only [List.mem_cons, List.not_mem_nil, or_false]; omega)
  by_cases h13 : z < 224
  · exact am_cg13 z (by simp only [List.mem_cons, List.not_mem_nil, or_false]; omega)
  by_cases h14 : z < 240
  · exact am_cg14 z (by simp only [List.mem_cons, List.not_mem_nil, or_false]; omega)
  by_cases h15 : z < 256
  · exact am_cg15 z (by simp only [List.mem_cons, List.not_mem_nil, or_false]; omega)
  by_cases h16 : z < 272
  · exact am_cg16 z (by simp only [List.mem_cons, List.not_mem_nil, or_false]; omega)
  by_cases h17 : z < 288
  · exact am_cg17 z (by simp only [List.mem_cons, List.not_mem_nil, or_false]; omega)
  by_cases h18 : z < 304
  · exact am_cg18 z (by simp only [List.mem_cons, List.not_mem_nil, or_false]; omega)
  by_cases h19 : z < 306
  · exact am_cg19 z (by simp only [List.mem_cons, List.not_mem_nil, or_false]; omega)
  · omega
def am_rtb (k : Nat) (t : Option FieldType) : Bool := match k with
  | 0 => decide (t = none)
  | 1 => decide (t = some .int)
  | 2 => decide (t = some .boolean)
  | 3 => decide (t = some .char)
  | 4 => decide (t = some .byte)
  | 5 => decide (t = some .long)
  | _ => false
/-- what numbers alone say of a method -/
def am_zb (z : Nat) : Bool := decide (am_cx z < 17) && (decide (am_ml z ≤ 14) && (decide (am_pc z 0 = 0) && (am_rtb (am_rk z) (am_rt z) && ((decide (am_sk z = 1)) || ((decide (am_own z = 60) && decide (am_cx z = 13)) || (decide (am_own z < 12) && decide (am_cx z = am_own z)))))))
theorem am_zbs : ∀ z, z < 306 → am_zb z = true := by decide +kernel
theorem am_cls_cn : ∀ c, c < 12 → ∃ T N, am_cl[c]? = some (am_cn c, T, N) := by
  intro c h
  match c, h with
  | 0, _ => exact ⟨_, _, rfl⟩
  | 1, _ => exact ⟨_, _, rfl⟩
  | 2, _ => exact ⟨_, _, rfl⟩
  | 3, _ => exact ⟨_, _, rfl⟩
  | 4, _ => exact ⟨_, _, rfl⟩
  | 5, _ => exact ⟨_, _, rfl⟩
  | 6, _ => exact ⟨_, _, rfl⟩
  | 7, _ => exact ⟨_, _, rfl⟩
  | 8, _ => exact ⟨_, _, rfl⟩
  | 9, _ => exact ⟨_, _, rfl⟩
  | 10, _ => exact ⟨_, _, rfl⟩
  | 11, _ => exact ⟨_, _, rfl⟩
  | n + 12, h => omega
theorem am_zok (z : Nat) (h : z < 306) : am_zOk z := by
  have hb := am_zbs z h
  unfold am_zb at hb
  simp only [Bool.and_eq_true, decide_eq_true_eq] at hb
  obtain ⟨h1, h2, h3, h4, -⟩ := hb
  obtain ⟨c1, c2, c3, c4⟩ := am_cms z h
  obtain ⟨q1, q2, q3, q4⟩ := am_qs _ h1
  rw [← c2] at q1 q2 q3 q4
  refine ⟨q1, q2, q3, ?_, q4, ⟨h2, h, h3⟩, ?_⟩
  · unfold am_Gg
    exact List.mem_filter.mpr ⟨List.mem_of_getElem? c1, rfl⟩
  · generalize am_rk z = k at h4 ⊢
    unfold am_rtb at h4
    match k, h4 with
    | 0, h4 => exact Or.inl ⟨rfl, of_decide_eq_true h4⟩
    | 1, h4 => exact Or.inr (Or.inl ⟨rfl, of_decide_eq_true h4⟩)
    | 2, h4 => exact Or.inr (Or.inr (Or.inl ⟨rfl, of_decide_eq_true h4⟩))
    | 3, h4 => exact Or.inr (Or.inr (Or.inr (Or.inl ⟨rfl, of_decide_eq_true h4⟩)))
    | 4, h4 => exact Or.inr (Or.inr (Or.inr (Or.inr (Or.inl ⟨rfl, of_decide_eq_true h4⟩))))
    | 5, h4 => exact Or.inr (Or.inr (Or.inr (Or.inr (Or.inr ⟨rfl, of_decide_eq_true h4⟩))))
    | n + 6, h4 => cases h4
