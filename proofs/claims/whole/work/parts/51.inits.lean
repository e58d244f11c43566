/-! the rows that constructors make -/
theorem s_fT_X9_init (N : Nat) (sa : Nat → Nat) (x0 : Nat) (K : Ka) (M : Cm) : fT_X9_init N sa x0 K M = bT_X9_init_10 N sa x0 x0 (kz K) (kNew K 22 4000 4000) (mZ M (kz K)) := by
  unfold fT_X9_init
  rw [gd_t (by decide)]
  rfl
theorem s_bT_X9_init_10 (N : Nat) (sa : Nat → Nat) (x0 s1 : Nat) (K : Ka) (M : Cm) (hk : kd K x0 = 10) : bT_X9_init_10 N sa x0 x0 s1 K M = bT_X9_init_19 N sa x0 x0 (kz K) (kNew K 22 4002 4002) (mZ (wR M x0 1 (some s1)) (kz K)) := by
  unfold bT_X9_init_10
  rw [gd_k hk, gd_t (by decide)]
  rfl
theorem s_bT_X9_init_19 (N : Nat) (sa : Nat → Nat) (x0 s1 : Nat) (K : Ka) (M : Cm) (hk : kd K x0 = 10) : bT_X9_init_19 N sa x0 x0 s1 K M = bT_X9_init_28 N sa x0 x0 (kz K) (kNew K 22 4002 4002) (mZ (wR M x0 4 (some s1)) (kz K)) := by
  unfold bT_X9_init_19
  rw [gd_k hk, gd_t (by decide)]
  rfl
theorem s_bT_X9_init_28 (N : Nat) (sa : Nat → Nat) (x0 s1 : Nat) (K : Ka) (M : Cm) (hk : kd K x0 = 10) : bT_X9_init_28 N sa x0 x0 s1 K M = bT_X9_init_37 N sa x0 x0 (kz K) (kNew K 23 4002 4002) (mZ (wR M x0 5 (some s1)) (kz K)) := by
  unfold bT_X9_init_28
  rw [gd_k hk, gd_t (by decide)]
  rfl
theorem s_bT_X9_init_37 (N : Nat) (sa : Nat → Nat) (x0 s1 : Nat) (K : Ka) (M : Cm) (hk : kd K x0 = 10) : bT_X9_init_37 N sa x0 x0 s1 K M = bT_X9_init_51 N sa x0 x0 (kz K) (kNew K 23 26 26) (mZ (wR (wR M x0 6 (some s1)) x0 9 (some (sa 0))) (kz K)) := by
  unfold bT_X9_init_37
  rw [gd_k hk, gd_k hk, gd_t (by decide)]
  rfl
theorem s_bT_X9_init_51 (N : Nat) (sa : Nat → Nat) (x0 s1 : Nat) (K : Ka) (M : Cm) (hk : kd K x0 = 10) : bT_X9_init_51 N sa x0 x0 s1 K M = bT_X9_init_58 N sa x0 x0 (kz K) (kNew K 22 2 2) (mZ (wR M x0 10 (some s1)) (kz K)) := by
  unfold bT_X9_init_51
  rw [gd_k hk, gd_t (by decide)]
  rfl
theorem s_bT_X9_init_58 (N : Nat) (sa : Nat → Nat) (x0 s1 : Nat) (K : Ka) (M : Cm) (hk : kd K x0 = 10) : bT_X9_init_58 N sa x0 x0 s1 K M = bT_X9_init_66 N sa x0 x0 (kz K) (kNew K 23 48 48) (mZ (wR M x0 13 (some s1)) (kz K)) := by
  unfold bT_X9_init_58
  rw [gd_k hk, gd_t (by decide)]
  rfl
theorem s_bT_X9_init_66 (N : Nat) (sa : Nat → Nat) (x0 s1 : Nat) (K : Ka) (M : Cm) (hk : kd K x0 = 10) : bT_X9_init_66 N sa x0 x0 s1 K M = bT_X9_init_74 N sa x0 x0 (kz K) (kNew K 22 48 48) (mZ (wR M x0 14 (some s1)) (kz K)) := by
  unfold bT_X9_init_66
  rw [gd_k hk, gd_t (by decide)]
  rfl
theorem s_bT_X9_init_74 (N : Nat) (sa : Nat → Nat) (x0 s1 : Nat) (K : Ka) (M : Cm) (hk : kd K x0 = 10) : bT_X9_init_74 N sa x0 x0 s1 K M = bT_X9_init_82 N sa x0 x0 (kz K) (kNew K 22 48 48) (mZ (wR M x0 15 (some s1)) (kz K)) := by
  unfold bT_X9_init_74
  rw [gd_k hk, gd_t (by decide)]
  rfl
theorem s_bT_X9_init_82 (N : Nat) (sa : Nat → Nat) (x0 s1 : Nat) (K : Ka) (M : Cm) (hk : kd K x0 = 10) : bT_X9_init_82 N sa x0 x0 s1 K M = bT_X9_init_90 N sa x0 x0 (kz K) (kNew K 22 48 48) (mZ (wR M x0 16 (some s1)) (kz K)) := by
  unfold bT_X9_init_82
  rw [gd_k hk, gd_t (by decide)]
  rfl
theorem s_bT_X9_init_90 (N : Nat) (sa : Nat → Nat) (x0 s1 : Nat) (K : Ka) (M : Cm) (hk : kd K x0 = 10) : bT_X9_init_90 N sa x0 x0 s1 K M = bT_X9_init_97 N sa x0 x0 (kz K) (kNew K 22 2 2) (mZ (wR M x0 17 (some s1)) (kz K)) := by
  unfold bT_X9_init_90
  rw [gd_k hk, gd_t (by decide)]
  rfl
theorem s_bT_X9_init_97 (N : Nat) (sa : Nat → Nat) (x0 s1 : Nat) (K : Ka) (M : Cm) (hk : kd K x0 = 10) : bT_X9_init_97 N sa x0 x0 s1 K M = bT_X9_init_105 N sa x0 x0 (kz K) (kNew K 23 48 48) (mZ (wR M x0 18 (some s1)) (kz K)) := by
  unfold bT_X9_init_97
  rw [gd_k hk, gd_t (by decide)]
  rfl
theorem s_bT_X9_init_105 (N : Nat) (sa : Nat → Nat) (x0 s1 : Nat) (K : Ka) (M : Cm) (hk : kd K x0 = 10) : bT_X9_init_105 N sa x0 x0 s1 K M = bT_X9_init_113 N sa x0 x0 (kz K) (kNew K 24 48 48) (mZ (wR M x0 19 (some s1)) (kz K)) := by
  unfold bT_X9_init_105
  rw [gd_k hk, gd_t (by decide)]
  rfl
theorem s_bT_X9_init_113 (N : Nat) (sa : Nat → Nat) (x0 s1 : Nat) (K : Ka) (M : Cm) (hk : kd K x0 = 10) : bT_X9_init_113 N sa x0 x0 s1 K M = bT_X9_init_121 N sa x0 x0 (kz K) (kNew K 24 48 48) (mZ (wR M x0 20 (some s1)) (kz K)) := by
  unfold bT_X9_init_113
  rw [gd_k hk, gd_t (by decide)]
  rfl
theorem s_bT_X9_init_121 (N : Nat) (sa : Nat → Nat) (x0 s1 : Nat) (K : Ka) (M : Cm) (hk : kd K x0 = 10) : bT_X9_init_121 N sa x0 x0 s1 K M = bT_X9_init_129 N sa x0 x0 (kz K) (kNew K 22 48 48) (mZ (wR M x0 21 (some s1)) (kz K)) := by
  unfold bT_X9_init_121
  rw [gd_k hk, gd_t (by decide)]
  rfl
theorem s_bT_X9_init_129 (N : Nat) (sa : Nat → Nat) (x0 s1 : Nat) (K : Ka) (M : Cm) (hk : kd K x0 = 10) : bT_X9_init_129 N sa x0 x0 s1 K M = bT_X9_init_137 N sa x0 x0 (kz K) (kNew K 22 48 48) (mZ (wR M x0 22 (some s1)) (kz K)) := by
  unfold bT_X9_init_129
  rw [gd_k hk, gd_t (by decide)]
  rfl
theorem s_bT_X9_init_137 (N : Nat) (sa : Nat → Nat) (x0 s1 : Nat) (K : Ka) (M : Cm) (hk : kd K x0 = 10) : bT_X9_init_137 N sa x0 x0 s1 K M = bT_X9_init_146 N sa x0 x0 (kz K) (kNew K 22 288 288) (mZ (wR M x0 23 (some s1)) (kz K)) := by
  unfold bT_X9_init_137
  rw [gd_k hk, gd_t (by decide)]
  rfl
theorem s_bT_X9_init_146 (N : Nat) (sa : Nat → Nat) (x0 s1 : Nat) (K : Ka) (M : Cm) (hk : kd K x0 = 10) : bT_X9_init_146 N sa x0 x0 s1 K M = bT_X9_init_154 N sa x0 x0 (kz K) (kNew K 22 48 48) (mZ (wR M x0 24 (some s1)) (kz K)) := by
  unfold bT_X9_init_146
  rw [gd_k hk, gd_t (by decide)]
  rfl
theorem s_bT_X9_init_154 (N : Nat) (sa : Nat → Nat) (x0 s1 : Nat) (K : Ka) (M : Cm) (hk : kd K x0 = 10) : bT_X9_init_154 N sa x0 x0 s1 K M = bT_X9_init_163 N sa x0 x0 (kz K) (kNew K 23 384 384) (mZ (wR M x0 25 (some s1)) (kz K)) := by
  unfold bT_X9_init_154
  rw [gd_k hk, gd_t (by decide)]
  rfl
theorem s_bT_X9_init_163 (N : Nat) (sa : Nat → Nat) (x0 s1 : Nat) (K : Ka) (M : Cm) (hk : kd K x0 = 10) : bT_X9_init_163 N sa x0 x0 s1 K M = bT_X9_init_172 N sa x0 x0 (kz K) (kNew K 24 384 384) (mZ (wR M x0 26 (some s1)) (kz K)) := by
  unfold bT_X9_init_163
  rw [gd_k hk, gd_t (by decide)]
  rfl
theorem s_bT_X9_init_172 (N : Nat) (sa : Nat → Nat) (x0 s1 : Nat) (K : Ka) (M : Cm) (hk : kd K x0 = 10) : bT_X9_init_172 N sa x0 x0 s1 K M = bT_X9_init_181 N sa x0 x0 (kz K) (kNew K 22 384 384) (mZ (wR M x0 27 (some s1)) (kz K)) := by
  unfold bT_X9_init_172
  rw [gd_k hk, gd_t (by decide)]
  rfl
theorem s_bT_X9_init_181 (N : Nat) (sa : Nat → Nat) (x0 s1 : Nat) (K : Ka) (M : Cm) (hk : kd K x0 = 10) : bT_X9_init_181 N sa x0 x0 s1 K M = bT_X9_init_190 N sa x0 x0 (kz K) (kNew K 22 384 384) (mZ (wR M x0 28 (some s1)) (kz K)) := by
  unfold bT_X9_init_181
  rw [gd_k hk, gd_t (by decide)]
  rfl
theorem s_bT_X9_init_190 (N : Nat) (sa : Nat → Nat) (x0 s1 : Nat) (K : Ka) (M : Cm) (hk : kd K x0 = 10) : bT_X9_init_190 N sa x0 x0 s1 K M = bT_X9_init_198 N sa x0 x0 (kz K) (kNew K 22 48 48) (mZ (wR M x0 29 (some s1)) (kz K)) := by
  unfold bT_X9_init_190
  rw [gd_k hk, gd_t (by decide)]
  rfl
theorem s_bT_X9_init_198 (N : Nat) (sa : Nat → Nat) (x0 s1 : Nat) (K : Ka) (M : Cm) (hk : kd K x0 = 10) : bT_X9_init_198 N sa x0 x0 s1 K M = bT_X9_init_206 N sa x0 x0 (kz K) (kNew K 22 48 48) (mZ (wR M x0 30 (some s1)) (kz K)) := by
  unfold bT_X9_init_198
  rw [gd_k hk, gd_t (by decide)]
  rfl
theorem s_bT_X9_init_206 (N : Nat) (sa : Nat → Nat) (x0 s1 : Nat) (K : Ka) (M : Cm) (hk : kd K x0 = 10) : bT_X9_init_206 N sa x0 x0 s1 K M = bT_X9_init_214 N sa x0 x0 (kz K) (kNew K 22 48 48) (mZ (wR M x0 31 (some s1)) (kz K)) := by
  unfold bT_X9_init_206
  rw [gd_k hk, gd_t (by decide)]
  rfl
theorem s_bT_X9_init_214 (N : Nat) (sa : Nat → Nat) (x0 s1 : Nat) (K : Ka) (M : Cm) (hk : kd K x0 = 10) : bT_X9_init_214 N sa x0 x0 s1 K M = bT_X9_init_222 N sa x0 x0 (kz K) (kNew K 22 48 48) (mZ (wR M x0 32 (some s1)) (kz K)) := by
  unfold bT_X9_init_214
  rw [gd_k hk, gd_t (by decide)]
  rfl
theorem s_bT_X9_init_222 (N : Nat) (sa : Nat → Nat) (x0 s1 : Nat) (K : Ka) (M : Cm) (hk : kd K x0 = 10) : bT_X9_init_222 N sa x0 x0 s1 K M = bT_X9_init_231 N sa x0 x0 (kz K) (kNew K 24 1152 1152) (mZ (wR M x0 33 (some s1)) (kz K)) := by
  unfold bT_X9_init_222
  rw [gd_k hk, gd_t (by decide)]
  rfl
theorem s_bT_X9_init_231 (N : Nat) (sa : Nat → Nat) (x0 s1 : Nat) (K : Ka) (M : Cm) (hk : kd K x0 = 10) : bT_X9_init_231 N sa x0 x0 s1 K M = bT_X9_init_238 N sa x0 x0 (kz K) (kNew K 22 2 2) (mZ (wR M x0 34 (some s1)) (kz K)) := by
  unfold bT_X9_init_231
  rw [gd_k hk, gd_t (by decide)]
  rfl
theorem s_bT_X9_init_238 (N : Nat) (sa : Nat → Nat) (x0 s1 : Nat) (K : Ka) (M : Cm) (hk : kd K x0 = 10) : bT_X9_init_238 N sa x0 x0 s1 K M = bT_X9_init_246 N sa x0 x0 (kz K) (kNew K 23 40 40) (mZ (wR M x0 35 (some s1)) (kz K)) := by
  unfold bT_X9_init_238
  rw [gd_k hk, gd_t (by decide)]
  rfl
theorem s_bT_X9_init_246 (N : Nat) (sa : Nat → Nat) (x0 s1 : Nat) (K : Ka) (M : Cm) (hk : kd K x0 = 10) : bT_X9_init_246 N sa x0 x0 s1 K M = bT_X9_init_254 N sa x0 x0 (kz K) (kNew K 22 40 40) (mZ (wR M x0 36 (some s1)) (kz K)) := by
  unfold bT_X9_init_246
  rw [gd_k hk, gd_t (by decide)]
  rfl
theorem s_bT_X9_init_254 (N : Nat) (sa : Nat → Nat) (x0 s1 : Nat) (K : Ka) (M : Cm) (hk : kd K x0 = 10) : bT_X9_init_254 N sa x0 x0 s1 K M = bT_X9_init_263 N sa x0 x0 (kz K) (kNew K 22 20000 20000) (mZ (wR M x0 37 (some s1)) (kz K)) := by
  unfold bT_X9_init_254
  rw [gd_k hk, gd_t (by decide)]
  rfl
theorem s_bT_X9_init_263 (N : Nat) (sa : Nat → Nat) (x0 s1 : Nat) (K : Ka) (M : Cm) (hk : kd K x0 = 10) : bT_X9_init_263 N sa x0 x0 s1 K M = bT_X9_init_272 N sa x0 x0 (kz K) (kNew K 22 20000 20000) (mZ (wR M x0 39 (some s1)) (kz K)) := by
  unfold bT_X9_init_263
  rw [gd_k hk, gd_t (by decide)]
  rfl
theorem s_bT_X9_init_272 (N : Nat) (sa : Nat → Nat) (x0 s1 : Nat) (K : Ka) (M : Cm) (hk : kd K x0 = 10) : bT_X9_init_272 N sa x0 x0 s1 K M = bT_X9_init_281 N sa x0 x0 (kz K) (kNew K 22 20000 20000) (mZ (wR M x0 40 (some s1)) (kz K)) := by
  unfold bT_X9_init_272
  rw [gd_k hk, gd_t (by decide)]
  rfl
theorem s_bT_X9_init_281 (N : Nat) (sa : Nat → Nat) (x0 s1 : Nat) (K : Ka) (M : Cm) (hk : kd K x0 = 10) : bT_X9_init_281 N sa x0 x0 s1 K M = bT_X9_init_290 N sa x0 x0 (kz K) (kNew K 22 2000 2000) (mZ (wR M x0 41 (some s1)) (kz K)) := by
  unfold bT_X9_init_281
  rw [gd_k hk, gd_t (by decide)]
  rfl
theorem s_bT_X9_init_290 (N : Nat) (sa : Nat → Nat) (x0 s1 : Nat) (K : Ka) (M : Cm) (hk : kd K x0 = 10) : bT_X9_init_290 N sa x0 x0 s1 K M = bT_X9_init_299 N sa x0 x0 (kz K) (kNew K 22 2000 2000) (mZ (wR M x0 43 (some s1)) (kz K)) := by
  unfold bT_X9_init_290
  rw [gd_k hk, gd_t (by decide)]
  rfl
theorem s_bT_X9_init_299 (N : Nat) (sa : Nat → Nat) (x0 s1 : Nat) (K : Ka) (M : Cm) (hk : kd K x0 = 10) : bT_X9_init_299 N sa x0 x0 s1 K M = bT_X9_init_308 N sa x0 x0 (kz K) (kNew K 22 2000 2000) (mZ (wR M x0 44 (some s1)) (kz K)) := by
  unfold bT_X9_init_299
  rw [gd_k hk, gd_t (by decide)]
  rfl
theorem s_bT_X9_init_308 (N : Nat) (sa : Nat → Nat) (x0 s1 : Nat) (K : Ka) (M : Cm) (hk : kd K x0 = 10) : bT_X9_init_308 N sa x0 x0 s1 K M = bT_X9_init_317 N sa x0 x0 (kz K) (kNew K 24 2000 2000) (mZ (wR M x0 45 (some s1)) (kz K)) := by
  unfold bT_X9_init_308
  rw [gd_k hk, gd_t (by decide)]
  rfl
theorem s_bT_X9_init_317 (N : Nat) (sa : Nat → Nat) (x0 s1 : Nat) (K : Ka) (M : Cm) (hk : kd K x0 = 10) : bT_X9_init_317 N sa x0 x0 s1 K M = bT_X9_init_326 N sa x0 x0 (kz K) (kNew K 22 2000 2000) (mZ (wR M x0 46 (some s1)) (kz K)) := by
  unfold bT_X9_init_317
  rw [gd_k hk, gd_t (by decide)]
  rfl
theorem s_bT_X9_init_326 (N : Nat) (sa : Nat → Nat) (x0 s1 : Nat) (K : Ka) (M : Cm) (hk : kd K x0 = 10) : bT_X9_init_326 N sa x0 x0 s1 K M = bT_X9_init_334 N sa x0 x0 (kz K) (kNew K 24 24 24) (mZ (wR M x0 47 (some s1)) (kz K)) := by
  unfold bT_X9_init_326
  rw [gd_k hk, gd_t (by decide)]
  rfl
theorem s_bT_X9_init_334 (N : Nat) (sa : Nat → Nat) (x0 s1 : Nat) (K : Ka) (M : Cm) (hk : kd K x0 = 10) : bT_X9_init_334 N sa x0 x0 s1 K M = bT_X9_init_342 N sa x0 x0 (kz K) (kNew K 22 24 24) (mZ (wR M x0 53 (some s1)) (kz K)) := by
  unfold bT_X9_init_334
  rw [gd_k hk, gd_t (by decide)]
  rfl
theorem s_bT_X9_init_342 (N : Nat) (sa : Nat → Nat) (x0 s1 : Nat) (K : Ka) (M : Cm) (hk : kd K x0 = 10) : bT_X9_init_342 N sa x0 x0 s1 K M = bT_X9_init_350 N sa x0 x0 (kz K) (kNew K 22 24 24) (mZ (wR M x0 54 (some s1)) (kz K)) := by
  unfold bT_X9_init_342
  rw [gd_k hk, gd_t (by decide)]
  rfl
theorem s_bT_X9_init_350 (N : Nat) (sa : Nat → Nat) (x0 s1 : Nat) (K : Ka) (M : Cm) (hk : kd K x0 = 10) : bT_X9_init_350 N sa x0 x0 s1 K M = bT_X9_init_359 N sa x0 x0 (kz K) (kNew K 22 192 192) (mZ (wR M x0 55 (some s1)) (kz K)) := by
  unfold bT_X9_init_350
  rw [gd_k hk, gd_t (by decide)]
  rfl
theorem s_bT_X9_init_359 (N : Nat) (sa : Nat → Nat) (x0 s1 : Nat) (K : Ka) (M : Cm) (hk : kd K x0 = 10) : bT_X9_init_359 N sa x0 x0 s1 K M = bT_X9_init_367 N sa x0 x0 (kz K) (kNew K 22 24 24) (mZ (wR M x0 56 (some s1)) (kz K)) := by
  unfold bT_X9_init_359
  rw [gd_k hk, gd_t (by decide)]
  rfl
theorem s_bT_X9_init_367 (N : Nat) (sa : Nat → Nat) (x0 s1 : Nat) (K : Ka) (M : Cm) (hk : kd K x0 = 10) : bT_X9_init_367 N sa x0 x0 s1 K M = bT_X9_init_375 N sa x0 x0 (kz K) (kNew K 22 24 24) (mZ (wR M x0 57 (some s1)) (kz K)) := by
  unfold bT_X9_init_367
  rw [gd_k hk, gd_t (by decide)]
  rfl
theorem s_bT_X9_init_375 (N : Nat) (sa : Nat → Nat) (x0 s1 : Nat) (K : Ka) (M : Cm) (hk : kd K x0 = 10) : bT_X9_init_375 N sa x0 x0 s1 K M = bT_X9_init_384 N sa x0 x0 (kz K) (kNew K 22 576 576) (mZ (wR M x0 58 (some s1)) (kz K)) := by
  unfold bT_X9_init_375
  rw [gd_k hk, gd_t (by decide)]
  rfl
theorem s_bT_X9_init_384 (N : Nat) (sa : Nat → Nat) (x0 s1 : Nat) (K : Ka) (M : Cm) (hk : kd K x0 = 10) : bT_X9_init_384 N sa x0 x0 s1 K M = bT_X9_init_392 N sa x0 x0 (kz K) (kNew K 22 24 24) (mZ (wR M x0 59 (some s1)) (kz K)) := by
  unfold bT_X9_init_384
  rw [gd_k hk, gd_t (by decide)]
  rfl
theorem s_bT_X9_init_392 (N : Nat) (sa : Nat → Nat) (x0 s1 : Nat) (K : Ka) (M : Cm) (hk : kd K x0 = 10) : bT_X9_init_392 N sa x0 x0 s1 K M = bT_X9_init_400 N sa x0 x0 (kz K) (kNew K 22 24 24) (mZ (wR M x0 60 (some s1)) (kz K)) := by
  unfold bT_X9_init_392
  rw [gd_k hk, gd_t (by decide)]
  rfl
theorem s_bT_X9_init_400 (N : Nat) (sa : Nat → Nat) (x0 s1 : Nat) (K : Ka) (M : Cm) (hk : kd K x0 = 10) : bT_X9_init_400 N sa x0 x0 s1 K M = bT_X9_init_408 N sa x0 x0 (kz K) (kNew K 22 24 24) (mZ (wR M x0 61 (some s1)) (kz K)) := by
  unfold bT_X9_init_400
  rw [gd_k hk, gd_t (by decide)]
  rfl
theorem s_bT_X9_init_408 (N : Nat) (sa : Nat → Nat) (x0 s1 : Nat) (K : Ka) (M : Cm) (hk : kd K x0 = 10) : bT_X9_init_408 N sa x0 x0 s1 K M = bT_X9_init_416 N sa x0 x0 (kz K) (kNew K 22 40 40) (mZ (wR M x0 62 (some s1)) (kz K)) := by
  unfold bT_X9_init_408
  rw [gd_k hk, gd_t (by decide)]
  rfl
theorem s_bT_X9_init_416 (N : Nat) (sa : Nat → Nat) (x0 s1 : Nat) (K : Ka) (M : Cm) (hk : kd K x0 = 10) : bT_X9_init_416 N sa x0 x0 s1 K M = bT_X9_init_424 N sa x0 x0 (kz K) (kNew K 22 40 40) (mZ (wR M x0 69 (some s1)) (kz K)) := by
  unfold bT_X9_init_416
  rw [gd_k hk, gd_t (by decide)]
  rfl
theorem s_bT_X9_init_424 (N : Nat) (sa : Nat → Nat) (x0 s1 : Nat) (K : Ka) (M : Cm) (hk : kd K x0 = 10) : bT_X9_init_424 N sa x0 x0 s1 K M = bT_X9_init_433 N sa x0 x0 (kz K) (kNew K 22 800 800) (mZ (wR M x0 70 (some s1)) (kz K)) := by
  unfold bT_X9_init_424
  rw [gd_k hk, gd_t (by decide)]
  rfl
theorem s_bT_X9_init_433 (N : Nat) (sa : Nat → Nat) (x0 s1 : Nat) (K : Ka) (M : Cm) (hk : kd K x0 = 10) : bT_X9_init_433 N sa x0 x0 s1 K M = bT_X9_init_442 N sa x0 x0 (kz K) (kNew K 22 800 800) (mZ (wR M x0 72 (some s1)) (kz K)) := by
  unfold bT_X9_init_433
  rw [gd_k hk, gd_t (by decide)]
  rfl
theorem s_bT_X9_init_442 (N : Nat) (sa : Nat → Nat) (x0 s1 : Nat) (K : Ka) (M : Cm) (hk : kd K x0 = 10) : bT_X9_init_442 N sa x0 x0 s1 K M = bT_X9_init_451 N sa x0 x0 (kz K) (kNew K 22 800 800) (mZ (wR M x0 73 (some s1)) (kz K)) := by
  unfold bT_X9_init_442
  rw [gd_k hk, gd_t (by decide)]
  rfl
theorem s_bT_X9_init_451 (N : Nat) (sa : Nat → Nat) (x0 s1 : Nat) (K : Ka) (M : Cm) (hk : kd K x0 = 10) : bT_X9_init_451 N sa x0 x0 s1 K M = bT_X9_init_460 N sa x0 x0 (kz K) (kNew K 22 200 200) (mZ (wR M x0 74 (some s1)) (kz K)) := by
  unfold bT_X9_init_451
  rw [gd_k hk, gd_t (by decide)]
  rfl
theorem s_bT_X9_init_460 (N : Nat) (sa : Nat → Nat) (x0 s1 : Nat) (K : Ka) (M : Cm) (hk : kd K x0 = 10) : bT_X9_init_460 N sa x0 x0 s1 K M = bT_X9_init_469 N sa x0 x0 (kz K) (kNew K 22 200 200) (mZ (wR M x0 76 (some s1)) (kz K)) := by
  unfold bT_X9_init_460
  rw [gd_k hk, gd_t (by decide)]
  rfl
theorem s_bT_X9_init_469 (N : Nat) (sa : Nat → Nat) (x0 s1 : Nat) (K : Ka) (M : Cm) (hk : kd K x0 = 10) : bT_X9_init_469 N sa x0 x0 s1 K M = bT_X9_init_478 N sa x0 x0 (kz K) (kNew K 22 200 200) (mZ (wR M x0 77 (some s1)) (kz K)) := by
  unfold bT_X9_init_469
  rw [gd_k hk, gd_t (by decide)]
  rfl
theorem s_bT_X9_init_478 (N : Nat) (sa : Nat → Nat) (x0 s1 : Nat) (K : Ka) (M : Cm) (hk : kd K x0 = 10) : bT_X9_init_478 N sa x0 x0 s1 K M = bT_X9_init_487 N sa x0 x0 (kz K) (kNew K 22 200 200) (mZ (wR M x0 78 (some s1)) (kz K)) := by
  unfold bT_X9_init_478
  rw [gd_k hk, gd_t (by decide)]
  rfl
theorem s_bT_X9_init_487 (N : Nat) (sa : Nat → Nat) (x0 s1 : Nat) (K : Ka) (M : Cm) (hk : kd K x0 = 10) : bT_X9_init_487 N sa x0 x0 s1 K M = bT_X9_init_496 N sa x0 x0 (kz K) (kNew K 22 200 200) (mZ (wR M x0 80 (some s1)) (kz K)) := by
  unfold bT_X9_init_487
  rw [gd_k hk, gd_t (by decide)]
  rfl
theorem s_bT_X9_init_496 (N : Nat) (sa : Nat → Nat) (x0 s1 : Nat) (K : Ka) (M : Cm) (hk : kd K x0 = 10) : bT_X9_init_496 N sa x0 x0 s1 K M = bT_X9_init_505 N sa x0 x0 (kz K) (kNew K 22 200 200) (mZ (wR M x0 81 (some s1)) (kz K)) := by
  unfold bT_X9_init_496
  rw [gd_k hk, gd_t (by decide)]
  rfl
theorem s_bT_X9_init_505 (N : Nat) (sa : Nat → Nat) (x0 s1 : Nat) (K : Ka) (M : Cm) (hk : kd K x0 = 10) : bT_X9_init_505 N sa x0 x0 s1 K M = bT_X9_init_514 N sa x0 x0 (kz K) (kNew K 24 200 200) (mZ (wR M x0 82 (some s1)) (kz K)) := by
  unfold bT_X9_init_505
  rw [gd_k hk, gd_t (by decide)]
  rfl
theorem s_bT_X9_init_514 (N : Nat) (sa : Nat → Nat) (x0 s1 : Nat) (K : Ka) (M : Cm) (hk : kd K x0 = 10) : bT_X9_init_514 N sa x0 x0 s1 K M = bT_X9_init_522 N sa x0 x0 (kz K) (kNew K 22 24 24) (mZ (wR M x0 83 (some s1)) (kz K)) := by
  unfold bT_X9_init_514
  rw [gd_k hk, gd_t (by decide)]
  rfl
theorem s_bT_X9_init_522 (N : Nat) (sa : Nat → Nat) (x0 s1 : Nat) (K : Ka) (M : Cm) (hk : kd K x0 = 10) : bT_X9_init_522 N sa x0 x0 s1 K M = bT_X9_init_530 N sa x0 x0 (kz K) (kNew K 22 24 24) (mZ (wR M x0 85 (some s1)) (kz K)) := by
  unfold bT_X9_init_522
  rw [gd_k hk, gd_t (by decide)]
  rfl
theorem s_bT_X9_init_530 (N : Nat) (sa : Nat → Nat) (x0 s1 : Nat) (K : Ka) (M : Cm) (hk : kd K x0 = 10) : bT_X9_init_530 N sa x0 x0 s1 K M = bT_X9_init_539 N sa x0 x0 (kz K) (kNew K 24 576 576) (mZ (wR M x0 86 (some s1)) (kz K)) := by
  unfold bT_X9_init_530
  rw [gd_k hk, gd_t (by decide)]
  rfl
theorem s_bT_X9_init_539 (N : Nat) (sa : Nat → Nat) (x0 s1 : Nat) (K : Ka) (M : Cm) (hk : kd K x0 = 10) : bT_X9_init_539 N sa x0 x0 s1 K M = bT_X9_init_548 N sa x0 x0 (kz K) (kNew K 22 4000 4000) (mZ (wR M x0 93 (some s1)) (kz K)) := by
  unfold bT_X9_init_539
  rw [gd_k hk, gd_t (by decide)]
  rfl
theorem s_bT_X9_init_548 (N : Nat) (sa : Nat → Nat) (x0 s1 : Nat) (K : Ka) (M : Cm) (hk : kd K x0 = 10) : bT_X9_init_548 N sa x0 x0 s1 K M = bT_X9_init_557 N sa x0 x0 (kz K) (kNew K 22 600 600) (mZ (wR M x0 94 (some s1)) (kz K)) := by
  unfold bT_X9_init_548
  rw [gd_k hk, gd_t (by decide)]
  rfl
theorem s_bT_X9_init_557 (N : Nat) (sa : Nat → Nat) (x0 s1 : Nat) (K : Ka) (M : Cm) (hk : kd K x0 = 10) : bT_X9_init_557 N sa x0 x0 s1 K M = bT_X9_init_565 N sa x0 x0 (kz K) (kNew K 22 24 24) (mZ (wR M x0 96 (some s1)) (kz K)) := by
  unfold bT_X9_init_557
  rw [gd_k hk, gd_t (by decide)]
  rfl
theorem s_bT_X9_init_565 (N : Nat) (sa : Nat → Nat) (x0 s1 : Nat) (K : Ka) (M : Cm) (hk : kd K x0 = 10) : bT_X9_init_565 N sa x0 x0 s1 K M = bT_X9_init_573 N sa x0 x0 (kz K) (kNew K 22 24 24) (mZ (wR M x0 100 (some s1)) (kz K)) := by
  unfold bT_X9_init_565
  rw [gd_k hk, gd_t (by decide)]
  rfl
theorem s_bT_X9_init_573 (N : Nat) (sa : Nat → Nat) (x0 s1 : Nat) (K : Ka) (M : Cm) (hk : kd K x0 = 10) : bT_X9_init_573 N sa x0 x0 s1 K M = bT_X9_init_582 N sa x0 x0 (kz K) (kNew K 22 192 192) (mZ (wR M x0 102 (some s1)) (kz K)) := by
  unfold bT_X9_init_573
  rw [gd_k hk, gd_t (by decide)]
  rfl
theorem s_bT_X9_init_582 (N : Nat) (sa : Nat → Nat) (x0 s1 : Nat) (K : Ka) (M : Cm) (hk : kd K x0 = 10) : bT_X9_init_582 N sa x0 x0 s1 K M = bT_X9_init_590 N sa x0 x0 (kz K) (kNew K 22 24 24) (mZ (wR M x0 103 (some s1)) (kz K)) := by
  unfold bT_X9_init_582
  rw [gd_k hk, gd_t (by decide)]
  rfl
theorem s_bT_X9_init_590 (N : Nat) (sa : Nat → Nat) (x0 s1 : Nat) (K : Ka) (M : Cm) (hk : kd K x0 = 10) : bT_X9_init_590 N sa x0 x0 s1 K M = bT_X9_init_598 N sa x0 x0 (kz K) (kNew K 22 24 24) (mZ (wR M x0 104 (some s1)) (kz K)) := by
  unfold bT_X9_init_590
  rw [gd_k hk, gd_t (by decide)]
  rfl
theorem s_bT_X9_init_598 (N : Nat) (sa : Nat → Nat) (x0 s1 : Nat) (K : Ka) (M : Cm) (hk : kd K x0 = 10) : bT_X9_init_598 N sa x0 x0 s1 K M = bT_X9_init_606 N sa x0 x0 (kz K) (kNew K 22 24 24) (mZ (wR M x0 105 (some s1)) (kz K)) := by
  unfold bT_X9_init_598
  rw [gd_k hk, gd_t (by decide)]
  rfl
theorem s_bT_X9_init_606 (N : Nat) (sa : Nat → Nat) (x0 s1 : Nat) (K : Ka) (M : Cm) (hk : kd K x0 = 10) : bT_X9_init_606 N sa x0 x0 s1 K M = bT_X9_init_614 N sa x0 x0 (kz K) (kNew K 22 24 24) (mZ (wR M x0 106 (some s1)) (kz K)) := by
  unfold bT_X9_init_606
  rw [gd_k hk, gd_t (by decide)]
  rfl
def al9a : List (Nat × Nat × Nat) := [(1, 22, 4000), (4, 22, 4002), (5, 22, 4002), (6, 23, 4002)]
def al9b : List (Nat × Nat × Nat) := [(10, 23, 26), (13, 22, 2), (14, 23, 48), (15, 22, 48), (16, 22, 48), (17, 22, 48), (18, 22, 2), (19, 23, 48), (20, 24, 48), (21, 24, 48), (22, 22, 48), (23, 22, 48), (24, 22, 288), (25, 22, 48), (26, 23, 384), (27, 24, 384), (28, 22, 384), (29, 22, 384), (30, 22, 48), (31, 22, 48), (32, 22, 48), (33, 22, 48), (34, 24, 1152), (35, 22, 2), (36, 23, 40), (37, 22, 40), (39, 22, 20000), (40, 22, 20000), (41, 22, 20000), (43, 22, 2000), (44, 22, 2000), (45, 22, 2000), (46, 24, 2000), (47, 22, 2000), (53, 24, 24), (54, 22, 24), (55, 22, 24), (56, 22, 192), (57, 22, 24), (58, 22, 24), (59, 22, 576), (60, 22, 24), (61, 22, 24), (62, 22, 24), (69, 22, 40), (70, 22, 40), (72, 22, 800), (73, 22, 800), (74, 22, 800), (76, 22, 200), (77, 22, 200), (78, 22, 200), (80, 22, 200), (81, 22, 200), (82, 22, 200), (83, 24, 200), (85, 22, 24), (86, 22, 24), (93, 24, 576), (94, 22, 4000), (96, 22, 600), (100, 22, 24), (102, 22, 24), (103, 22, 192), (104, 22, 24), (105, 22, 24), (106, 22, 24), (107, 22, 24)]
def mk9 (sa : Nat → Nat) (x0 : Nat) (q : Ka × Cm) : Ka × Cm := mk x0 al9b ((mk x0 al9a q).1, wR (mk x0 al9a q).2 x0 9 (some (sa 0)))
set_option maxRecDepth 100000 in
set_option maxHeartbeats 1000000 in
theorem e_X9_init (N : Nat) (sa : Nat → Nat) (x0 : Nat) (K : Ka) (M : Cm) (hk : kd K x0 = 10 ∧ x0 < kz K) : fT_X9_init N sa x0 K M = (lT_X9_init_624 N sa (bT_X9_init_684 N sa) N) x0 0 0 0 (mk9 sa x0 (K, M)).1 (mk9 sa x0 (K, M)).2 := by
  refine (s_fT_X9_init N sa x0 K M).trans ?_
  replace hk := ks hk 22 4000 4000
  refine (s_bT_X9_init_10 N sa x0 _ _ _ hk.1).trans ?_
  replace hk := ks hk 22 4002 4002
  refine (s_bT_X9_init_19 N sa x0 _ _ _ hk.1).trans ?_
  replace hk := ks hk 22 4002 4002
  refine (s_bT_X9_init_28 N sa x0 _ _ _ hk.1).trans ?_
  replace hk := ks hk 23 4002 4002
  refine (s_bT_X9_init_37 N sa x0 _ _ _ hk.1).trans ?_
  replace hk := ks hk 23 26 26
  refine (s_bT_X9_init_51 N sa x0 _ _ _ hk.1).trans ?_
  replace hk := ks hk 22 2 2
  refine (s_bT_X9_init_58 N sa x0 _ _ _ hk.1).trans ?_
  replace hk := ks hk 23 48 48
  refine (s_bT_X9_init_66 N sa x0 _ _ _ hk.1).trans ?_
  replace hk := ks hk 22 48 48
  refine (s_bT_X9_init_74 N sa x0 _ _ _ hk.1).trans ?_
  replace hk := ks hk 22 48 48
  refine (s_bT_X9_init_82 N sa x0 _ _ _ hk.1).trans ?_
  replace hk := ks hk 22 48 48
  refine (s_bT_X9_init_90 N sa x0 _ _ _ hk.1).trans ?_
  replace hk := ks hk 22 2 2
  refine (s_bT_X9_init_97 N sa x0 _ _ _ hk.1).trans ?_
  replace hk := ks hk 23 48 48
  refine (s_bT_X9_init_105 N sa x0 _ _ _ hk.1).trans ?_
  replace hk := ks hk 24 48 48
  refine (s_bT_X9_init_113 N sa x0 _ _ _ hk.1).trans ?_
  replace hk := ks hk 24 48 48
  refine (s_bT_X9_init_121 N sa x0 _ _ _ hk.1).trans ?_
  replace hk := ks hk 22 48 48
  refine (s_bT_X9_init_129 N sa x0 _ _ _ hk.1).trans ?_
  replace hk := ks hk 22 48 48
  refine (s_bT_X9_init_137 N sa x0 _ _ _ hk.1).trans ?_
  replace hk := ks hk 22 288 288
  refine (s_bT_X9_init_146 N sa x0 _ _ _ hk.1).trans ?_
  replace hk := ks hk 22 48 48
  refine (s_bT_X9_init_154 N sa x0 _ _ _ hk.1).trans ?_
  replace hk := ks hk 23 384 384
  refine (s_bT_X9_init_163 N sa x0 _ _ _ hk.1).trans ?_
  replace hk := ks hk 24 384 384
  refine (s_bT_X9_init_172 N sa x0 _ _ _ hk.1).trans ?_
  replace hk := ks hk 22 384 384
  refine (s_bT_X9_init_181 N sa x0 _ _ _ hk.1).trans ?_
  replace hk := ks hk 22 384 384
  refine (s_bT_X9_init_190 N sa x0 _ _ _ hk.1).trans ?_
  replace hk := ks hk 22 48 48
  refine (s_bT_X9_init_198 N sa x0 _ _ _ hk.1).trans ?_
  replace hk := ks hk 22 48 48
  refine (s_bT_X9_init_206 N sa x0 _ _ _ hk.1).trans ?_
  replace hk := ks hk 22 48 48
  refine (s_bT_X9_init_214 N sa x0 _ _ _ hk.1).trans ?_
  replace hk := ks hk 22 48 48
  refine (s_bT_X9_init_222 N sa x0 _ _ _ hk.1).trans ?_
  replace hk := ks hk 24 1152 1152
  refine (s_bT_X9_init_231 N sa x0 _ _ _ hk.1).trans ?_
  replace hk := ks hk 22 2 2
  refine (s_bT_X9_init_238 N sa x0 _ _ _ hk.1).trans ?_
  replace hk := ks hk 23 40 40
  refine (s_bT_X9_init_246 N sa x0 _ _ _ hk.1).trans ?_
  replace hk := ks hk 22 40 40
  refine (s_bT_X9_init_254 N sa x0 _ _ _ hk.1).trans ?_
  replace hk := ks hk 22 20000 20000
  refine (s_bT_X9_init_263 N sa x0 _ _ _ hk.1).trans ?_
  replace hk := ks hk 22 20000 20000
  refine (s_bT_X9_init_272 N sa x0 _ _ _ hk.1).trans ?_
  replace hk := ks hk 22 20000 20000
  refine (s_bT_X9_init_281 N sa x0 _ _ _ hk.1).trans ?_
  replace hk := ks hk 22 2000 2000
  refine (s_bT_X9_init_290 N sa x0 _ _ _ hk.1).trans ?_
  replace hk := ks hk 22 2000 2000
  refine (s_bT_X9_init_299 N sa x0 _ _ _ hk.1).trans ?_
  replace hk := ks hk 22 2000 2000
  refine (s_bT_X9_init_308 N sa x0 _ _ _ hk.1).trans ?_
  replace hk := ks hk 24 2000 2000
  refine (s_bT_X9_init_317 N sa x0 _ _ _ hk.1).trans ?_
  replace hk := ks hk 22 2000 2000
  refine (s_bT_X9_init_326 N sa x0 _ _ _ hk.1).trans ?_
  replace hk := ks hk 24 24 24
  refine (s_bT_X9_init_334 N sa x0 _ _ _ hk.1).trans ?_
  replace hk := ks hk 22 24 24
  refine (s_bT_X9_init_342 N sa x0 _ _ _ hk.1).trans ?_
  replace hk := ks hk 22 24 24
  refine (s_bT_X9_init_350 N sa x0 _ _ _ hk.1).trans ?_
  replace hk := ks hk 22 192 192
  refine (s_bT_X9_init_359 N sa x0 _ _ _ hk.1).trans ?_
  replace hk := ks hk 22 24 24
  refine (s_bT_X9_init_367 N sa x0 _ _ _ hk.1).trans ?_
  replace hk := ks hk 22 24 24
  refine (s_bT_X9_init_375 N sa x0 _ _ _ hk.1).trans ?_
  replace hk := ks hk 22 576 576
  refine (s_bT_X9_init_384 N sa x0 _ _ _ hk.1).trans ?_
  replace hk := ks hk 22 24 24
  refine (s_bT_X9_init_392 N sa x0 _ _ _ hk.1).trans ?_
  replace hk := ks hk 22 24 24
  refine (s_bT_X9_init_400 N sa x0 _ _ _ hk.1).trans ?_
  replace hk := ks hk 22 24 24
  refine (s_bT_X9_init_408 N sa x0 _ _ _ hk.1).trans ?_
  replace hk := ks hk 22 40 40
  refine (s_bT_X9_init_416 N sa x0 _ _ _ hk.1).trans ?_
  replace hk := ks hk 22 40 40
  refine (s_bT_X9_init_424 N sa x0 _ _ _ hk.1).trans ?_
  replace hk := ks hk 22 800 800
  refine (s_bT_X9_init_433 N sa x0 _ _ _ hk.1).trans ?_
  replace hk := ks hk 22 800 800
  refine (s_bT_X9_init_442 N sa x0 _ _ _ hk.1).trans ?_
  replace hk := ks hk 22 800 800
  refine (s_bT_X9_init_451 N sa x0 _ _ _ hk.1).trans ?_
  replace hk := ks hk 22 200 200
  refine (s_bT_X9_init_460 N sa x0 _ _ _ hk.1).trans ?_
  replace hk := ks hk 22 200 200
  refine (s_bT_X9_init_469 N sa x0 _ _ _ hk.1).trans ?_
  replace hk := ks hk 22 200 200
  refine (s_bT_X9_init_478 N sa x0 _ _ _ hk.1).trans ?_
  replace hk := ks hk 22 200 200
  refine (s_bT_X9_init_487 N sa x0 _ _ _ hk.1).trans ?_
  replace hk := ks hk 22 200 200
  refine (s_bT_X9_init_496 N sa x0 _ _ _ hk.1).trans ?_
  replace hk := ks hk 22 200 200
  refine (s_bT_X9_init_505 N sa x0 _ _ _ hk.1).trans ?_
  replace hk := ks hk 24 200 200
  refine (s_bT_X9_init_514 N sa x0 _ _ _ hk.1).trans ?_
  replace hk := ks hk 22 24 24
  refine (s_bT_X9_init_522 N sa x0 _ _ _ hk.1).trans ?_
  replace hk := ks hk 22 24 24
  refine (s_bT_X9_init_530 N sa x0 _ _ _ hk.1).trans ?_
  replace hk := ks hk 24 576 576
  refine (s_bT_X9_init_539 N sa x0 _ _ _ hk.1).trans ?_
  replace hk := ks hk 22 4000 4000
  refine (s_bT_X9_init_548 N sa x0 _ _ _ hk.1).trans ?_
  replace hk := ks hk 22 600 600
  refine (s_bT_X9_init_557 N sa x0 _ _ _ hk.1).trans ?_
  replace hk := ks hk 22 24 24
  refine (s_bT_X9_init_565 N sa x0 _ _ _ hk.1).trans ?_
  replace hk := ks hk 22 24 24
  refine (s_bT_X9_init_573 N sa x0 _ _ _ hk.1).trans ?_
  replace hk := ks hk 22 192 192
  refine (s_bT_X9_init_582 N sa x0 _ _ _ hk.1).trans ?_
  replace hk := ks hk 22 24 24
  refine (s_bT_X9_init_590 N sa x0 _ _ _ hk.1).trans ?_
  replace hk := ks hk 22 24 24
  refine (s_bT_X9_init_598 N sa x0 _ _ _ hk.1).trans ?_
  replace hk := ks hk 22 24 24
  refine (s_bT_X9_init_606 N sa x0 _ _ _ hk.1).trans ?_
  replace hk := ks hk 22 24 24
  unfold bT_X9_init_614
  rw [gd_k hk.1]
  simp only [mk9, al9a, al9b, mk]
theorem s_fT_X4_init (N : Nat) (x0 : Nat) (K : Ka) (M : Cm) : fT_X4_init N x0 K M = bT_X4_init_9 N x0 x0 (kz K) (kNew K 22 24 24) (mZ M (kz K)) := by
  unfold fT_X4_init
  rw [gd_t (by decide)]
  rfl
theorem s_bT_X4_init_9 (N : Nat) (x0 s1 : Nat) (K : Ka) (M : Cm) (hk : kd K x0 = 5) : bT_X4_init_9 N x0 x0 s1 K M = bT_X4_init_17 N x0 x0 (kz K) (kNew K 22 24 24) (mZ (wR M x0 0 (some s1)) (kz K)) := by
  unfold bT_X4_init_9
  rw [gd_k hk, gd_t (by decide)]
  rfl
theorem s_bT_X4_init_17 (N : Nat) (x0 s1 : Nat) (K : Ka) (M : Cm) (hk : kd K x0 = 5) : bT_X4_init_17 N x0 x0 s1 K M = bT_X4_init_26 N x0 x0 (kz K) (kNew K 22 192 192) (mZ (wR M x0 1 (some s1)) (kz K)) := by
  unfold bT_X4_init_17
  rw [gd_k hk, gd_t (by decide)]
  rfl
theorem s_bT_X4_init_26 (N : Nat) (x0 s1 : Nat) (K : Ka) (M : Cm) (hk : kd K x0 = 5) : bT_X4_init_26 N x0 x0 s1 K M = bT_X4_init_34 N x0 x0 (kz K) (kNew K 22 24 24) (mZ (wR M x0 2 (some s1)) (kz K)) := by
  unfold bT_X4_init_26
  rw [gd_k hk, gd_t (by decide)]
  rfl
theorem s_bT_X4_init_34 (N : Nat) (x0 s1 : Nat) (K : Ka) (M : Cm) (hk : kd K x0 = 5) : bT_X4_init_34 N x0 x0 s1 K M = bT_X4_init_42 N x0 x0 (kz K) (kNew K 22 24 24) (mZ (wR M x0 3 (some s1)) (kz K)) := by
  unfold bT_X4_init_34
  rw [gd_k hk, gd_t (by decide)]
  rfl
theorem s_bT_X4_init_42 (N : Nat) (x0 s1 : Nat) (K : Ka) (M : Cm) (hk : kd K x0 = 5) : bT_X4_init_42 N x0 x0 s1 K M = bT_X4_init_51 N x0 x0 (kz K) (kNew K 22 576 576) (mZ (wR M x0 4 (some s1)) (kz K)) := by
  unfold bT_X4_init_42
  rw [gd_k hk, gd_t (by decide)]
  rfl
theorem s_bT_X4_init_51 (N : Nat) (x0 s1 : Nat) (K : Ka) (M : Cm) (hk : kd K x0 = 5) : bT_X4_init_51 N x0 x0 s1 K M = bT_X4_init_59 N x0 x0 (kz K) (kNew K 22 24 24) (mZ (wR M x0 5 (some s1)) (kz K)) := by
  unfold bT_X4_init_51
  rw [gd_k hk, gd_t (by decide)]
  rfl
theorem s_bT_X4_init_59 (N : Nat) (x0 s1 : Nat) (K : Ka) (M : Cm) (hk : kd K x0 = 5) : bT_X4_init_59 N x0 x0 s1 K M = bT_X4_init_67 N x0 x0 (kz K) (kNew K 22 24 24) (mZ (wR M x0 6 (some s1)) (kz K)) := by
  unfold bT_X4_init_59
  rw [gd_k hk, gd_t (by decide)]
  rfl
theorem s_bT_X4_init_67 (N : Nat) (x0 s1 : Nat) (K : Ka) (M : Cm) (hk : kd K x0 = 5) : bT_X4_init_67 N x0 x0 s1 K M = bT_X4_init_75 N x0 x0 (kz K) (kNew K 22 24 24) (mZ (wR M x0 7 (some s1)) (kz K)) := by
  unfold bT_X4_init_67
  rw [gd_k hk, gd_t (by decide)]
  rfl
theorem s_bT_X4_init_75 (N : Nat) (x0 s1 : Nat) (K : Ka) (M : Cm) (hk : kd K x0 = 5) : bT_X4_init_75 N x0 x0 s1 K M = bT_X4_init_83 N x0 x0 (kz K) (kNew K 22 24 24) (mZ (wR M x0 8 (some s1)) (kz K)) := by
  unfold bT_X4_init_75
  rw [gd_k hk, gd_t (by decide)]
  rfl
def al4 : List (Nat × Nat × Nat) := [(0, 22, 24), (1, 22, 24), (2, 22, 192), (3, 22, 24), (4, 22, 24), (5, 22, 576), (6, 22, 24), (7, 22, 24), (8, 22, 24), (9, 22, 24)]
set_option maxRecDepth 100000 in
set_option maxHeartbeats 1000000 in
theorem e_X4_init (N : Nat) (x0 : Nat) (K : Ka) (M : Cm) (hk : kd K x0 = 5 ∧ x0 < kz K) : fT_X4_init N x0 K M = some (.inl ((mk x0 al4 (K, M)).1, wI (wI (mk x0 al4 (K, M)).2 x0 10 0) x0 11 0)) := by
  refine (s_fT_X4_init N x0 K M).trans ?_
  replace hk := ks hk 22 24 24
  refine (s_bT_X4_init_9 N x0 _ _ _ hk.1).trans ?_
  replace hk := ks hk 22 24 24
  refine (s_bT_X4_init_17 N x0 _ _ _ hk.1).trans ?_
  replace hk := ks hk 22 192 192
  refine (s_bT_X4_init_26 N x0 _ _ _ hk.1).trans ?_
  replace hk := ks hk 22 24 24
  refine (s_bT_X4_init_34 N x0 _ _ _ hk.1).trans ?_
  replace hk := ks hk 22 24 24
  refine (s_bT_X4_init_42 N x0 _ _ _ hk.1).trans ?_
  replace hk := ks hk 22 576 576
  refine (s_bT_X4_init_51 N x0 _ _ _ hk.1).trans ?_
  replace hk := ks hk 22 24 24
  refine (s_bT_X4_init_59 N x0 _ _ _ hk.1).trans ?_
  replace hk := ks hk 22 24 24
  refine (s_bT_X4_init_67 N x0 _ _ _ hk.1).trans ?_
  replace hk := ks hk 22 24 24
  refine (s_bT_X4_init_75 N x0 _ _ _ hk.1).trans ?_
  replace hk := ks hk 22 24 24
  unfold bT_X4_init_83
  rw [gd_k hk.1, gd_k hk.1]
  rfl
theorem s_fT_X0_init (N : Nat) (x0 : Nat) (K : Ka) (M : Cm) : fT_X0_init N x0 K M = bT_X0_init_10 N x0 x0 (kz K) (kNew K 22 2232 2232) (mZ M (kz K)) := by
  unfold fT_X0_init
  rw [gd_t (by decide)]
  rfl
theorem s_bT_X0_init_10 (N : Nat) (x0 s1 : Nat) (K : Ka) (M : Cm) (hk : kd K x0 = 1) : bT_X0_init_10 N x0 x0 s1 K M = bT_X0_init_19 N x0 x0 (kz K) (kNew K 22 600 600) (mZ (wR M x0 0 (some s1)) (kz K)) := by
  unfold bT_X0_init_10
  rw [gd_k hk, gd_t (by decide)]
  rfl
theorem s_bT_X0_init_19 (N : Nat) (x0 s1 : Nat) (K : Ka) (M : Cm) (hk : kd K x0 = 1) : bT_X0_init_19 N x0 x0 s1 K M = bT_X0_init_28 N x0 x0 (kz K) (kNew K 22 800 800) (mZ (wR M x0 1 (some s1)) (kz K)) := by
  unfold bT_X0_init_19
  rw [gd_k hk, gd_t (by decide)]
  rfl
theorem s_bT_X0_init_28 (N : Nat) (x0 s1 : Nat) (K : Ka) (M : Cm) (hk : kd K x0 = 1) : bT_X0_init_28 N x0 x0 s1 K M = bT_X0_init_36 N x0 x0 (kz K) (kNew K 22 48 48) (mZ (wR M x0 2 (some s1)) (kz K)) := by
  unfold bT_X0_init_28
  rw [gd_k hk, gd_t (by decide)]
  rfl
def al0 : List (Nat × Nat × Nat) := [(0, 22, 2232), (1, 22, 600), (2, 22, 800), (3, 22, 48)]
set_option maxRecDepth 100000 in
set_option maxHeartbeats 1000000 in
theorem e_X0_init (N : Nat) (x0 : Nat) (K : Ka) (M : Cm) (hk : kd K x0 = 1 ∧ x0 < kz K) : fT_X0_init N x0 K M = some (.inl ((mk x0 al0 (K, M)).1, wI (wI (wI (wI (mk x0 al0 (K, M)).2 x0 4 0) x0 5 0) x0 6 0) x0 7 0)) := by
  refine (s_fT_X0_init N x0 K M).trans ?_
  replace hk := ks hk 22 2232 2232
  refine (s_bT_X0_init_10 N x0 _ _ _ hk.1).trans ?_
  replace hk := ks hk 22 600 600
  refine (s_bT_X0_init_19 N x0 _ _ _ hk.1).trans ?_
  replace hk := ks hk 22 800 800
  refine (s_bT_X0_init_28 N x0 _ _ _ hk.1).trans ?_
  replace hk := ks hk 22 48 48
  unfold bT_X0_init_36
  rw [gd_k hk.1, gd_k hk.1]
  rfl
theorem s_fT_X6_init (N : Nat) (x0 : Nat) (K : Ka) (M : Cm) : fT_X6_init N x0 K M = bT_X6_init_10 N x0 x0 (kz K) (kNew K 21 4000 4000) (mZ M (kz K)) := by
  unfold fT_X6_init
  rw [gd_t (by decide)]
  rfl
theorem s_bT_X6_init_10 (N : Nat) (x0 s1 : Nat) (K : Ka) (M : Cm) (hk : kd K x0 = 7) : bT_X6_init_10 N x0 x0 s1 K M = bT_X6_init_19 N x0 x0 (kz K) (kNew K 22 4001 4001) (mZ (wR M x0 0 (some s1)) (kz K)) := by
  unfold bT_X6_init_10
  rw [gd_k hk, gd_t (by decide)]
  rfl
theorem s_bT_X6_init_19 (N : Nat) (x0 s1 : Nat) (K : Ka) (M : Cm) (hk : kd K x0 = 7) : bT_X6_init_19 N x0 x0 s1 K M = bT_X6_init_28 N x0 x0 (kz K) (kNew K 22 4001 4001) (mZ (wR M x0 1 (some s1)) (kz K)) := by
  unfold bT_X6_init_19
  rw [gd_k hk, gd_t (by decide)]
  rfl
theorem s_bT_X6_init_28 (N : Nat) (x0 s1 : Nat) (K : Ka) (M : Cm) (hk : kd K x0 = 7) : bT_X6_init_28 N x0 x0 s1 K M = bT_X6_init_37 N x0 x0 (kz K) (kNew K 23 4001 4001) (mZ (wR M x0 2 (some s1)) (kz K)) := by
  unfold bT_X6_init_28
  rw [gd_k hk, gd_t (by decide)]
  rfl
theorem s_bT_X6_init_37 (N : Nat) (x0 s1 : Nat) (K : Ka) (M : Cm) (hk : kd K x0 = 7) : bT_X6_init_37 N x0 x0 s1 K M = bT_X6_init_45 N x0 x0 (kz K) (kNew K 23 25 25) (mZ (wR M x0 3 (some s1)) (kz K)) := by
  unfold bT_X6_init_37
  rw [gd_k hk, gd_t (by decide)]
  rfl
def al6 : List (Nat × Nat × Nat) := [(0, 21, 4000), (1, 22, 4001), (2, 22, 4001), (3, 23, 4001), (4, 23, 25)]
set_option maxRecDepth 100000 in
set_option maxHeartbeats 1000000 in
theorem e_X6_init (N : Nat) (x0 : Nat) (K : Ka) (M : Cm) (hk : kd K x0 = 7 ∧ x0 < kz K) : fT_X6_init N x0 K M = (lT_X6_init_65 N (bT_X6_init_131 N) N) x0 0 0 0 (mk x0 al6 (K, M)).1 (wI (wI (mk x0 al6 (K, M)).2 x0 5 0) x0 6 0) := by
  refine (s_fT_X6_init N x0 K M).trans ?_
  replace hk := ks hk 21 4000 4000
  refine (s_bT_X6_init_10 N x0 _ _ _ hk.1).trans ?_
  replace hk := ks hk 22 4001 4001
  refine (s_bT_X6_init_19 N x0 _ _ _ hk.1).trans ?_
  replace hk := ks hk 22 4001 4001
  refine (s_bT_X6_init_28 N x0 _ _ _ hk.1).trans ?_
  replace hk := ks hk 23 4001 4001
  refine (s_bT_X6_init_37 N x0 _ _ _ hk.1).trans ?_
  replace hk := ks hk 23 25 25
  unfold bT_X6_init_45
  rw [gd_k hk.1, gd_k hk.1]
  rfl
theorem s_fT_X1_init (N : Nat) (x0 : Nat) (K : Ka) (M : Cm) : fT_X1_init N x0 K M = bT_X1_init_9 N x0 x0 (kz K) (kNew K 22 10 10) (mZ M (kz K)) := by
  unfold fT_X1_init
  rw [gd_t (by decide)]
  rfl
def al1 : List (Nat × Nat × Nat) := [(0, 22, 10)]
set_option maxRecDepth 100000 in
set_option maxHeartbeats 1000000 in
theorem e_X1_init (N : Nat) (x0 : Nat) (K : Ka) (M : Cm) (hk : kd K x0 = 2 ∧ x0 < kz K) : fT_X1_init N x0 K M = some (.inl ((mk x0 al1 (K, M)).1, wI (wI (wI (wI (wI (mk x0 al1 (K, M)).2 x0 1 (-1)) x0 2 0) x0 3 0) x0 4 0) x0 5 0)) := by
  refine (s_fT_X1_init N x0 K M).trans ?_
  replace hk := ks hk 22 10 10
  unfold bT_X1_init_9
  rw [gd_k hk.1, gd_k hk.1]
  rfl
