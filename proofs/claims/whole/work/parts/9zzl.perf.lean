/-! runs: one instruction -/
section PERF
variable {z : Nat} {K : Ka} {M : Cm} {N : Nat}
theorem pf1 (hk : kd K (z + 35) = 3) (f s : Int32) : fC_X2_perform N K (z + 35) (nI 1) f s M = fC_X2_step N K (z + 35) M := by
  unfold fC_X2_perform bC_X2_perform_255
  rw [if_pos (by decide), gd_k hk, bn_some]
theorem pf2 (hk : kd K (z + 35) = 3) (f s : Int32) : fC_X2_perform N K (z + 35) (nI 2) f s M = fC_X2_push N K (z + 35) s M := by
  unfold fC_X2_perform bC_X2_perform_255
  rw [if_neg (by decide), if_pos (by decide), gd_k hk]
  rw [bn_some]
theorem pf3 (hk : kd K (z + 35) = 3) (f s : Int32) : fC_X2_perform N K (z + 35) (nI 3) f s M = (fC_X2_noteNeed N K (z + 35) f M).bind fun o => fC_X2_push N K (z + 35) s o := by
  unfold fC_X2_perform bC_X2_perform_255
  rw [if_neg (by decide), if_neg (by decide), if_pos (by decide), gd_k hk]
  cases fC_X2_noteNeed N K (z + 35) f M with
  | none => rfl
  | some o => rw [bs, bs, bn_some]
theorem pf4 (hk : kd K (z + 35) = 3) (f s : Int32) : fC_X2_perform N K (z + 35) (nI 4) f s M = fC_X2_look N K (z + 35) f s M := by
  unfold fC_X2_perform bC_X2_perform_255
  rw [if_neg (by decide), if_neg (by decide), if_neg (by decide), if_pos (by decide), gd_k hk]
  rw [bn_some]
theorem pf5 (hk : kd K (z + 35) = 3) (f s : Int32) : fC_X2_perform N K (z + 35) (nI 5) f s M = fC_X2_store N K (z + 35) f s M := by
  unfold fC_X2_perform bC_X2_perform_255
  rw [if_neg (by decide), if_neg (by decide), if_neg (by decide), if_neg (by decide), if_pos (by decide), gd_k hk]
  rw [bn_some]
theorem pf6 (hk : kd K (z + 35) = 3) (f s : Int32) : fC_X2_perform N K (z + 35) (nI 6) f s M = (fC_X2_noteNeed N K (z + 35) f M).bind fun o => (fC_X2_isThere N K (z + 35) f o).bind fun q => some q.2 := by
  unfold fC_X2_perform bC_X2_perform_255
  rw [if_neg (by decide), if_neg (by decide), if_neg (by decide), if_neg (by decide), if_neg (by decide), if_pos (by decide), gd_k hk]
theorem pf7 (hk : kd K (z + 35) = 3) (f s : Int32) : fC_X2_perform N K (z + 35) (nI 7) f s M = (fC_X2_isThere N K (z + 35) f M).bind fun q => some q.2 := by
  unfold fC_X2_perform bC_X2_perform_255
  rw [if_neg (by decide), if_neg (by decide), if_neg (by decide), if_neg (by decide), if_neg (by decide), if_neg (by decide), if_pos (by decide), gd_k hk]
theorem pf13 (hk : kd K (z + 35) = 3) (f s : Int32) : fC_X2_perform N K (z + 35) (nI 13) f s M = (fC_X2_pop N K (z + 35) M).bind fun o => fC_X2_giveOrder N K (z + 35) f o.1 o.2 := by
  unfold fC_X2_perform bC_X2_perform_255
  rw [if_neg (by decide), if_neg (by decide), if_neg (by decide), if_neg (by decide), if_neg (by decide), if_neg (by decide), if_neg (by decide), if_neg (by decide), if_neg (by decide), if_neg (by decide), if_neg (by decide), if_neg (by decide), if_pos (by decide), gd_k hk]
  cases fC_X2_pop N K (z + 35) M with
  | none => rfl
  | some o => rw [bs, bs, bn_some]
theorem pf14 (hk : kd K (z + 35) = 3) (f s : Int32) : fC_X2_perform N K (z + 35) (nI 14) f s M = (fC_X2_pop N K (z + 35) M).bind fun o => if o.1 = 0 then RSE N K z 0 11 0 o.2 else some o.2 := by
  unfold fC_X2_perform bC_X2_perform_255
  rw [if_neg (by decide), if_neg (by decide), if_neg (by decide), if_neg (by decide), if_neg (by decide), if_neg (by decide), if_neg (by decide), if_neg (by decide), if_neg (by decide), if_neg (by decide), if_neg (by decide), if_neg (by decide), if_neg (by decide), if_pos (by decide), gd_k hk]
  cases fC_X2_pop N K (z + 35) M with
  | none => rfl
  | some o =>
    rw [bs, bs]
    split
    · rw [bn_some, c_raise]
    · rfl
theorem pf15 (hk : kd K (z + 35) = 3) (f s : Int32) : fC_X2_perform N K (z + 35) (nI 15) f s M = RSE N K z 0 f 0 M := by
  unfold fC_X2_perform bC_X2_perform_255
  rw [if_neg (by decide), if_neg (by decide), if_neg (by decide), if_neg (by decide), if_neg (by decide), if_neg (by decide), if_neg (by decide), if_neg (by decide), if_neg (by decide), if_neg (by decide), if_neg (by decide), if_neg (by decide), if_neg (by decide), if_neg (by decide), if_pos (by decide), gd_k hk]
  rw [bn_some, c_raise]
theorem pf20 (hk : kd K (z + 35) = 3) (f s : Int32) : fC_X2_perform N K (z + 35) (nI 20) f s M = fC_X2_leave N K (z + 35) M := by
  unfold fC_X2_perform bC_X2_perform_255
  rw [if_neg (by decide), if_neg (by decide), if_neg (by decide), if_neg (by decide), if_neg (by decide), if_neg (by decide), if_neg (by decide), if_neg (by decide), if_neg (by decide), if_neg (by decide), if_neg (by decide), if_neg (by decide), if_neg (by decide), if_neg (by decide), if_neg (by decide), if_neg (by decide), if_neg (by decide), if_neg (by decide), if_neg (by decide), if_pos (by decide), gd_k hk]
  rw [bn_some]
theorem pf9 (f s : Int32) (hk : kd K (z + 35) = 3) : fC_X2_perform N K (z + 35) (nI 9) f s M = fC_X2_performPlain N K (z + 35) (nI 9) f M := by
  unfold fC_X2_perform bC_X2_perform_249 bC_X2_perform_255
  rw [if_neg (by decide), if_neg (by decide), if_neg (by decide), if_neg (by decide), if_neg (by decide), if_neg (by decide), if_neg (by decide), if_neg (by decide), if_pos (by decide), gd_k hk, bn_some]
theorem pf10 (f s : Int32) (hk : kd K (z + 35) = 3) : fC_X2_perform N K (z + 35) (nI 10) f s M = fC_X2_performPlain N K (z + 35) (nI 10) f M := by
  unfold fC_X2_perform bC_X2_perform_249 bC_X2_perform_255
  rw [if_neg (by decide), if_neg (by decide), if_neg (by decide), if_neg (by decide), if_neg (by decide), if_neg (by decide), if_neg (by decide), if_neg (by decide), if_neg (by decide), if_pos (by decide), gd_k hk, bn_some]
theorem pf11 (f s : Int32) (hk : kd K (z + 35) = 3) : fC_X2_perform N K (z + 35) (nI 11) f s M = fC_X2_performPlain N K (z + 35) (nI 11) f M := by
  unfold fC_X2_perform bC_X2_perform_249 bC_X2_perform_255
  rw [if_neg (by decide), if_neg (by decide), if_neg (by decide), if_neg (by decide), if_neg (by decide), if_neg (by decide), if_neg (by decide), if_neg (by decide), if_neg (by decide), if_neg (by decide), if_pos (by decide), gd_k hk, bn_some]
theorem pf12 (f s : Int32) (hk : kd K (z + 35) = 3) : fC_X2_perform N K (z + 35) (nI 12) f s M = fC_X2_performPlain N K (z + 35) (nI 12) f M := by
  unfold fC_X2_perform bC_X2_perform_249 bC_X2_perform_255
  rw [if_neg (by decide), if_neg (by decide), if_neg (by decide), if_neg (by decide), if_neg (by decide), if_neg (by decide), if_neg (by decide), if_neg (by decide), if_neg (by decide), if_neg (by decide), if_neg (by decide), if_pos (by decide), gd_k hk, bn_some]
theorem pf16 (f s : Int32) (hk : kd K (z + 35) = 3) : fC_X2_perform N K (z + 35) (nI 16) f s M = fC_X2_performPlain N K (z + 35) (nI 16) f M := by
  unfold fC_X2_perform bC_X2_perform_249 bC_X2_perform_255
  rw [if_neg (by decide), if_neg (by decide), if_neg (by decide), if_neg (by decide), if_neg (by decide), if_neg (by decide), if_neg (by decide), if_neg (by decide), if_neg (by decide), if_neg (by decide), if_neg (by decide), if_neg (by decide), if_neg (by decide), if_neg (by decide), if_neg (by decide), if_pos (by decide), gd_k hk, bn_some]
theorem pf17 (f s : Int32) (hk : kd K (z + 35) = 3) : fC_X2_perform N K (z + 35) (nI 17) f s M = fC_X2_performPlain N K (z + 35) (nI 17) f M := by
  unfold fC_X2_perform bC_X2_perform_249 bC_X2_perform_255
  rw [if_neg (by decide), if_neg (by decide), if_neg (by decide), if_neg (by decide), if_neg (by decide), if_neg (by decide), if_neg (by decide), if_neg (by decide), if_neg (by decide), if_neg (by decide), if_neg (by decide), if_neg (by decide), if_neg (by decide), if_neg (by decide), if_neg (by decide), if_neg (by decide), if_pos (by decide), gd_k hk, bn_some]
theorem pf18 (f s : Int32) (hk : kd K (z + 35) = 3) : fC_X2_perform N K (z + 35) (nI 18) f s M = fC_X2_performPlain N K (z + 35) (nI 18) f M := by
  unfold fC_X2_perform bC_X2_perform_249 bC_X2_perform_255
  rw [if_neg (by decide), if_neg (by decide), if_neg (by decide), if_neg (by decide), if_neg (by decide), if_neg (by decide), if_neg (by decide), if_neg (by decide), if_neg (by decide), if_neg (by decide), if_neg (by decide), if_neg (by decide), if_neg (by decide), if_neg (by decide), if_neg (by decide), if_neg (by decide), if_neg (by decide), if_pos (by decide), gd_k hk, bn_some]
theorem pf19 (f s : Int32) (hk : kd K (z + 35) = 3) : fC_X2_perform N K (z + 35) (nI 19) f s M = fC_X2_performPlain N K (z + 35) (nI 19) f M := by
  unfold fC_X2_perform bC_X2_perform_249 bC_X2_perform_255
  rw [if_neg (by decide), if_neg (by decide), if_neg (by decide), if_neg (by decide), if_neg (by decide), if_neg (by decide), if_neg (by decide), if_neg (by decide), if_neg (by decide), if_neg (by decide), if_neg (by decide), if_neg (by decide), if_neg (by decide), if_neg (by decide), if_neg (by decide), if_neg (by decide), if_neg (by decide), if_neg (by decide), if_pos (by decide), gd_k hk, bn_some]
theorem pf37 (f s : Int32) (hk : kd K (z + 35) = 3) : fC_X2_perform N K (z + 35) (nI 37) f s M = (fC_X2_pop N K (z + 35) M).bind fun o => (fC_X2_pop N K (z + 35) o.2).bind fun q => fC_X2_reckon N K (z + 35) (nI 37) q.1 o.1 q.2 := by
  unfold fC_X2_perform bC_X2_perform_249 bC_X2_perform_255 fC_X2_performPlain bC_X2_performPlain_172 bC_X2_performPlain_187
  rw [if_neg (by decide), if_neg (by decide), if_neg (by decide), if_neg (by decide), if_neg (by decide), if_neg (by decide), if_neg (by decide), if_neg (by decide), if_neg (by decide), if_neg (by decide), if_neg (by decide), if_neg (by decide), if_neg (by decide), if_neg (by decide), if_neg (by decide), if_neg (by decide), if_neg (by decide), if_neg (by decide), if_neg (by decide), if_neg (by decide), gd_k hk, bn_some, if_neg (by decide), if_neg (by decide), if_neg (by decide), if_neg (by decide), if_neg (by decide), if_neg (by decide), if_neg (by decide), if_neg (by decide), if_neg (by decide), if_neg (by decide), if_neg (by decide), gd_k hk]
  cases fC_X2_pop N K (z + 35) M with
  | none => rfl
  | some o =>
    rw [bs, bs]
    cases fC_X2_pop N K (z + 35) o.2 with
    | none => rfl
    | some q => rw [bs, bs, bn_some]
theorem pf42 (f s : Int32) (hk : kd K (z + 35) = 3) : fC_X2_perform N K (z + 35) (nI 42) f s M = (fC_X2_pop N K (z + 35) M).bind fun o => (fC_X2_pop N K (z + 35) o.2).bind fun q => fC_X2_reckon N K (z + 35) (nI 42) q.1 o.1 q.2 := by
  unfold fC_X2_perform bC_X2_perform_249 bC_X2_perform_255 fC_X2_performPlain bC_X2_performPlain_172 bC_X2_performPlain_187
  rw [if_neg (by decide), if_neg (by decide), if_neg (by decide), if_neg (by decide), if_neg (by decide), if_neg (by decide), if_neg (by decide), if_neg (by decide), if_neg (by decide), if_neg (by decide), if_neg (by decide), if_neg (by decide), if_neg (by decide), if_neg (by decide), if_neg (by decide), if_neg (by decide), if_neg (by decide), if_neg (by decide), if_neg (by decide), if_neg (by decide), gd_k hk, bn_some, if_neg (by decide), if_neg (by decide), if_neg (by decide), if_neg (by decide), if_neg (by decide), if_neg (by decide), if_neg (by decide), if_neg (by decide), if_neg (by decide), if_neg (by decide), if_neg (by decide), gd_k hk]
  cases fC_X2_pop N K (z + 35) M with
  | none => rfl
  | some o =>
    rw [bs, bs]
    cases fC_X2_pop N K (z + 35) o.2 with
    | none => rfl
    | some q => rw [bs, bs, bn_some]
theorem pf43 (f s : Int32) (hk : kd K (z + 35) = 3) : fC_X2_perform N K (z + 35) (nI 43) f s M = (fC_X2_pop N K (z + 35) M).bind fun o => (fC_X2_pop N K (z + 35) o.2).bind fun q => fC_X2_reckon N K (z + 35) (nI 43) q.1 o.1 q.2 := by
  unfold fC_X2_perform bC_X2_perform_249 bC_X2_perform_255 fC_X2_performPlain bC_X2_performPlain_172 bC_X2_performPlain_187
  rw [if_neg (by decide), if_neg (by decide), if_neg (by decide), if_neg (by decide), if_neg (by decide), if_neg (by decide), if_neg (by decide), if_neg (by decide), if_neg (by decide), if_neg (by decide), if_neg (by decide), if_neg (by decide), if_neg (by decide), if_neg (by decide), if_neg (by decide), if_neg (by decide), if_neg (by decide), if_neg (by decide), if_neg (by decide), if_neg (by decide), gd_k hk, bn_some, if_neg (by decide), if_neg (by decide), if_neg (by decide), if_neg (by decide), if_neg (by decide), if_neg (by decide), if_neg (by decide), if_neg (by decide), if_neg (by decide), if_neg (by decide), if_neg (by decide), gd_k hk]
  cases fC_X2_pop N K (z + 35) M with
  | none => rfl
  | some o =>
    rw [bs, bs]
    cases fC_X2_pop N K (z + 35) o.2 with
    | none => rfl
    | some q => rw [bs, bs, bn_some]
theorem pf45 (f s : Int32) (hk : kd K (z + 35) = 3) : fC_X2_perform N K (z + 35) (nI 45) f s M = (fC_X2_pop N K (z + 35) M).bind fun o => (fC_X2_pop N K (z + 35) o.2).bind fun q => fC_X2_reckon N K (z + 35) (nI 45) q.1 o.1 q.2 := by
  unfold fC_X2_perform bC_X2_perform_249 bC_X2_perform_255 fC_X2_performPlain bC_X2_performPlain_172 bC_X2_performPlain_187
  rw [if_neg (by decide), if_neg (by decide), if_neg (by decide), if_neg (by decide), if_neg (by decide), if_neg (by decide), if_neg (by decide), if_neg (by decide), if_neg (by decide), if_neg (by decide), if_neg (by decide), if_neg (by decide), if_neg (by decide), if_neg (by decide), if_neg (by decide), if_neg (by decide), if_neg (by decide), if_neg (by decide), if_neg (by decide), if_neg (by decide), gd_k hk, bn_some, if_neg (by decide), if_neg (by decide), if_neg (by decide), if_neg (by decide), if_neg (by decide), if_neg (by decide), if_neg (by decide), if_neg (by decide), if_neg (by decide), if_neg (by decide), if_neg (by decide), gd_k hk]
  cases fC_X2_pop N K (z + 35) M with
  | none => rfl
  | some o =>
    rw [bs, bs]
    cases fC_X2_pop N K (z + 35) o.2 with
    | none => rfl
    | some q => rw [bs, bs, bn_some]
theorem pf47 (f s : Int32) (hk : kd K (z + 35) = 3) : fC_X2_perform N K (z + 35) (nI 47) f s M = (fC_X2_pop N K (z + 35) M).bind fun o => (fC_X2_pop N K (z + 35) o.2).bind fun q => fC_X2_reckon N K (z + 35) (nI 47) q.1 o.1 q.2 := by
  unfold fC_X2_perform bC_X2_perform_249 bC_X2_perform_255 fC_X2_performPlain bC_X2_performPlain_172 bC_X2_performPlain_187
  rw [if_neg (by decide), if_neg (by decide), if_neg (by decide), if_neg (by decide), if_neg (by decide), if_neg (by decide), if_neg (by decide), if_neg (by decide), if_neg (by decide), if_neg (by decide), if_neg (by decide), if_neg (by decide), if_neg (by decide), if_neg (by decide), if_neg (by decide), if_neg (by decide), if_neg (by decide), if_neg (by decide), if_neg (by decide), if_neg (by decide), gd_k hk, bn_some, if_neg (by decide), if_neg (by decide), if_neg (by decide), if_neg (by decide), if_neg (by decide), if_neg (by decide), if_neg (by decide), if_neg (by decide), if_neg (by decide), if_neg (by decide), if_neg (by decide), gd_k hk]
  cases fC_X2_pop N K (z + 35) M with
  | none => rfl
  | some o =>
    rw [bs, bs]
    cases fC_X2_pop N K (z + 35) o.2 with
    | none => rfl
    | some q => rw [bs, bs, bn_some]
theorem pf60 (f s : Int32) (hk : kd K (z + 35) = 3) : fC_X2_perform N K (z + 35) (nI 60) f s M = (fC_X2_pop N K (z + 35) M).bind fun o => (fC_X2_pop N K (z + 35) o.2).bind fun q => fC_X2_reckon N K (z + 35) (nI 60) q.1 o.1 q.2 := by
  unfold fC_X2_perform bC_X2_perform_249 bC_X2_perform_255 fC_X2_performPlain bC_X2_performPlain_172 bC_X2_performPlain_187
  rw [if_neg (by decide), if_neg (by decide), if_neg (by decide), if_neg (by decide), if_neg (by decide), if_neg (by decide), if_neg (by decide), if_neg (by decide), if_neg (by decide), if_neg (by decide), if_neg (by decide), if_neg (by decide), if_neg (by decide), if_neg (by decide), if_neg (by decide), if_neg (by decide), if_neg (by decide), if_neg (by decide), if_neg (by decide), if_neg (by decide), gd_k hk, bn_some, if_neg (by decide), if_neg (by decide), if_neg (by decide), if_neg (by decide), if_neg (by decide), if_neg (by decide), if_neg (by decide), if_neg (by decide), if_neg (by decide), if_neg (by decide), if_neg (by decide), gd_k hk]
  cases fC_X2_pop N K (z + 35) M with
  | none => rfl
  | some o =>
    rw [bs, bs]
    cases fC_X2_pop N K (z + 35) o.2 with
    | none => rfl
    | some q => rw [bs, bs, bn_some]
theorem pf61 (f s : Int32) (hk : kd K (z + 35) = 3) : fC_X2_perform N K (z + 35) (nI 61) f s M = (fC_X2_pop N K (z + 35) M).bind fun o => (fC_X2_pop N K (z + 35) o.2).bind fun q => fC_X2_reckon N K (z + 35) (nI 61) q.1 o.1 q.2 := by
  unfold fC_X2_perform bC_X2_perform_249 bC_X2_perform_255 fC_X2_performPlain bC_X2_performPlain_172 bC_X2_performPlain_187
  rw [if_neg (by decide), if_neg (by decide), if_neg (by decide), if_neg (by decide), if_neg (by decide), if_neg (by decide), if_neg (by decide), if_neg (by decide), if_neg (by decide), if_neg (by decide), if_neg (by decide), if_neg (by decide), if_neg (by decide), if_neg (by decide), if_neg (by decide), if_neg (by decide), if_neg (by decide), if_neg (by decide), if_neg (by decide), if_neg (by decide), gd_k hk, bn_some, if_neg (by decide), if_neg (by decide), if_neg (by decide), if_neg (by decide), if_neg (by decide), if_neg (by decide), if_neg (by decide), if_neg (by decide), if_neg (by decide), if_neg (by decide), if_neg (by decide), gd_k hk]
  cases fC_X2_pop N K (z + 35) M with
  | none => rfl
  | some o =>
    rw [bs, bs]
    cases fC_X2_pop N K (z + 35) o.2 with
    | none => rfl
    | some q => rw [bs, bs, bn_some]
theorem pp9 (hk : kd K (z + 35) = 3) (f : Int32) : fC_X2_performPlain N K (z + 35) (nI 9) f M = (fC_X2_pop N K (z + 35) M).bind fun o => fC_X2_push N K (z + 35) (-o.1) o.2 := by
  unfold fC_X2_performPlain bC_X2_performPlain_187
  rw [if_pos (by decide), gd_k hk]
  cases fC_X2_pop N K (z + 35) M with
  | none => rfl
  | some o => rw [bs, bs, bn_some]
theorem pp10 (hL : LY z K M) {d : Nat} (hd : d < 24) : fC_X2_performPlain N K (z + 35) (nI 10) (nI d) M = fC_X2_push N K (z + 35) (cI M (z + 17) d) M := by
  unfold fC_X2_performPlain bC_X2_performPlain_187
  rw [if_neg (by decide), if_pos (by decide), gd_k (hL.k 35 3 0 rfl), nn_s (hL.r 35 0 8 (by decide)), gd_k (hL.k 8 5 0 rfl), nn_s (hL.r 8 8 17 (by decide)), gd_k (hL.k 17 22 24 rfl), hL.l 17 22 24 rfl (by decide), ck_n hd (by decide), nI_clamp (by omega), bn_some]
theorem pp11 (hL : LY z K M) {h : Nat} (hh : h < 25) (h5 : cR M (z + 35) 5 = some (z + 38 + 2 * h)) (f : Int32) : fC_X2_performPlain N K (z + 35) (nI 11) f M = fC_X2_push N K (z + 35) (cI M (z + 38 + 2 * h) 3) M := by
  unfold fC_X2_performPlain bC_X2_performPlain_187
  rw [if_neg (by decide), if_neg (by decide), if_pos (by decide), gd_k (hL.k 35 3 0 rfl), nn_s h5, gd_k (hL.2.2.1 h hh).2.1, bn_some]
theorem pp12 (hL : LY z K M) (f : Int32) : fC_X2_performPlain N K (z + 35) (nI 12) f M = fC_X2_push N K (z + 35) (cI M (z + 8) 11) M := by
  unfold fC_X2_performPlain bC_X2_performPlain_187
  rw [if_neg (by decide), if_neg (by decide), if_neg (by decide), if_pos (by decide), gd_k (hL.k 35 3 0 rfl), nn_s (hL.r 35 0 8 (by decide)), gd_k (hL.k 8 5 0 rfl), bn_some]
theorem pp16 (hL : LY z K M) {h : Nat} (hh : h < 25) (h5 : cR M (z + 35) 5 = some (z + 38 + 2 * h)) (f : Int32) : fC_X2_performPlain N K (z + 35) (nI 16) f M = some (wI M (z + 38 + 2 * h) 2 f) := by
  unfold fC_X2_performPlain bC_X2_performPlain_187
  rw [if_neg (by decide), if_neg (by decide), if_neg (by decide), if_neg (by decide), if_neg (by decide), if_neg (by decide), if_neg (by decide), if_pos (by decide), gd_k (hL.k 35 3 0 rfl), nn_s h5, gd_k (hL.2.2.1 h hh).2.1]
theorem pp17 (hk : kd K (z + 35) = 3) (f : Int32) : fC_X2_performPlain N K (z + 35) (nI 17) f M = (fC_X2_pop N K (z + 35) M).bind fun o => if o.1 = 0 then nn (cR o.2 (z + 35) 5) (fun a => gd (kd K a == 2) (some (wI o.2 a 2 f))) else some o.2 := by
  unfold fC_X2_performPlain bC_X2_performPlain_187
  rw [if_neg (by decide), if_neg (by decide), if_neg (by decide), if_neg (by decide), if_neg (by decide), if_neg (by decide), if_neg (by decide), if_neg (by decide), if_pos (by decide), gd_k hk]
theorem pp18 (hL : LY z K M) {h : Nat} (hh : h < 25) (h5 : cR M (z + 35) 5 = some (z + 38 + 2 * h)) {m : Nat} (hm : m < 10) (ht : cI M (z + 38 + 2 * h) 5 = nI m) (f : Int32) : fC_X2_performPlain N K (z + 35) (nI 18) f M = some (wI (wI M (z + 38 + 2 * h + 1) m f) (z + 38 + 2 * h) 5 (nI (m + 1))) := by
  unfold fC_X2_performPlain bC_X2_performPlain_187 fC_X1_addTry bC_X1_addTry_32
  obtain ⟨f1, f2, f3, f4, f5⟩ := hL.2.2.1 h hh
  rw [if_neg (by decide), if_neg (by decide), if_neg (by decide), if_neg (by decide), if_neg (by decide), if_neg (by decide), if_neg (by decide), if_neg (by decide), if_neg (by decide), if_pos (by decide), gd_k (hL.k 35 3 0 rfl), nn_s h5, gd_k f2, gd_k f2, nn_s f5, gd_k f3, f4, ht, if_neg (nI_ge hm (by decide)), nn_s f5, gd_k f3, f4, ck_n hm (by decide), nI_clamp (by omega), cI_wI_ne _ _ _ (by omega), ht, nI_1, bs]
theorem pp19 (hL : LY z K M) {h : Nat} (hh : h < 25) (h5 : cR M (z + 35) 5 = some (z + 38 + 2 * h)) {m : Nat} (ht : cI M (z + 38 + 2 * h) 5 = nI (m + 1)) (f : Int32) : fC_X2_performPlain N K (z + 35) (nI 19) f M = some (wI M (z + 38 + 2 * h) 5 (nI m)) := by
  unfold fC_X2_performPlain bC_X2_performPlain_187
  rw [if_neg (by decide), if_neg (by decide), if_neg (by decide), if_neg (by decide), if_neg (by decide), if_neg (by decide), if_neg (by decide), if_neg (by decide), if_neg (by decide), if_neg (by decide), if_pos (by decide), gd_k (hL.k 35 3 0 rfl), nn_s h5, gd_k (hL.2.2.1 h hh).2.1, ht, nI_p1]
end PERF
