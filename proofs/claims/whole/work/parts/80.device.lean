/-! stores that the old station doesn't see -/
theorem pF_pF (S : Ms) (k : Nat) (v w : Int32) : pF (pF S k v) k w = pF S k w := by
  show (upd (upd S.1 k v) k w, S.2) = (upd S.1 k w, S.2)
  have e : upd (upd S.1 k v) k w = upd S.1 k w := by
    funext j
    by_cases h : j = k
    · simp [upd, h]
    · simp [upd, h]
  rw [e]
theorem mv_mv (z : Nat) (M : Cm) (j j' : Nat) : mv z (mv z M j) j' = mv z M j' := by
  have hI : cI (mv z (mv z M j) j') = cI (mv z M j') := by
    funext b s
    have e3 : cI (mv z M j) (z + 3) = cI M (z + 3) := mv_I j (by omega)
    by_cases hb : b = z + 7
    · subst hb
      by_cases h2 : s = 2
      · subst h2
        unfold mv
        rw [cI_w, if_neg (by omega), cI_w, if_pos ⟨rfl, rfl⟩, cI_w, if_neg (by omega), cI_w, if_pos ⟨rfl, rfl⟩]
      · by_cases h3 : s = 3
        · subst h3
          show cI (wI (wI (mv z M j) (z + 7) 2 (nI j')) (z + 7) 3 (cI (mv z M j) (z + 3) j')) (z + 7) 3 = cI (wI (wI M (z + 7) 2 (nI j')) (z + 7) 3 (cI M (z + 3) j')) (z + 7) 3
          rw [cI_w, if_pos ⟨rfl, rfl⟩, cI_w, if_pos ⟨rfl, rfl⟩, e3]
        · rw [mv_o _ h2 h3, mv_o _ h2 h3, mv_o _ h2 h3]
    · rw [mv_I _ hb, mv_I _ hb, mv_I _ hb]
  have e1 : (mv z (mv z M j) j').1 = (mv z M j').1 := hI
  have e2 : (mv z (mv z M j) j').2 = (mv z M j').2 := rfl
  exact Prod.ext e1 e2
theorem AgO.pF {b : Nat} {S : Ms} {k : Nat} (hk : ¬ OF k) (v : Int32) : AgO b S (pF S k v) := ⟨fun j hj => by rw [mF_F, if_neg (show ¬ j = k from fun q => by subst q; exact hk hj)], fun _ _ _ => rfl, fun _ _ _ => rfl⟩
theorem AgO.pA {b : Nat} {S : Ms} {k i : Nat} (hk : ¬ OB b k i) (v : Int32) : AgO b S (pA S k i v) := ⟨fun _ _ => rfl, fun k' j hj => by rw [mA_A, if_neg (show ¬ (k' = k ∧ j = i) from fun q => by obtain ⟨q1, q2⟩ := q; subst q1; subst q2; exact hk hj)], fun _ _ _ => rfl⟩
theorem AgO.pL {b : Nat} {S : Ms} {k i : Nat} (hk : ¬ OB b k i) (v : Int64) : AgO b S (pL S k i v) := ⟨fun _ _ => rfl, fun _ _ _ => rfl, fun k' j hj => by rw [mL_L, if_neg (show ¬ (k' = k ∧ j = i) from fun q => by obtain ⟨q1, q2⟩ := q; subst q1; subst q2; exact hk hj)]⟩
theorem o7 : ¬ OF 7 := fun h => h.1 rfl
theorem o8 : ¬ OF 8 := fun h => h.2.1 rfl
theorem ob_n {b bn k i w : Nat} (hb : b = 0 ∨ b = 1) (hbn : bn = 1 - b) (hw : bw k = w) (hw0 : w ≠ 0) (h1 : w * bn ≤ i) (h2 : i < w * bn + w) : ¬ OB b k i := by
  rintro ⟨q | ⟨q1, q2⟩, -⟩
  · omega
  · rw [hw] at q1 q2
    rcases hb with rfl | rfl
    · subst hbn; simp at *; omega
    · subst hbn; simp at *; omega
section DEVICE
variable {z : Nat} {K : Ka} {M : Cm} {S : Ms} {size t a b bn sm nd nu nm : Nat}
theorem PT.sL (h : PT z K M S size t a) {k : Nat} (h6 : k ≠ 6) (h10 : k ≠ 10) (i : Nat) (v : Int64) : PT z K M (pL S k i v) size t a := by
  have e6 : mL (pL S k i v) 6 = mL S 6 := by funext j; rw [mL_L, if_neg (fun q => h6 q.1.symm)]
  have e10 : mL (pL S k i v) 10 = mL S 10 := by funext j; rw [mL_L, if_neg (fun q => h10 q.1.symm)]
  unfold PT TKS TK1 at h ⊢
  rw [e6, e10]
  exact h
theorem PT.sA (h : PT z K M S size t a) {k : Nat} (h4 : k ≠ 4) (h5 : k ≠ 5) (i : Nat) (v : Int32) : PT z K M (pA S k i v) size t a := by
  unfold PT TKS TK1 at h ⊢
  rw [mA_Ane _ _ _ (show 4 ≠ k from fun q => h4 q.symm), mA_Ane _ _ _ (show 5 ≠ k from fun q => h5 q.symm)]
  exact h
/-! the reference's way through a device, from its end -/
def dvE7 (N : Nat) (S : Ms) : Option Ms := (fM_takeSign N 59 S).bind fun o123 => ck (mF o123 12) 2 (ck (mF o123 12) 2 (some (pA o123 13 (mF o123 12 : Int32).toNatClampNeg ((mA o123 13 (mF o123 12 : Int32).toNatClampNeg) + 1))))
def dvE6 (N : Nat) (q : Int32) (S : Ms) : Option Ms := (fM_takeNumber N 1 999999999 S).bind fun o116 => ck q 48 (dvE7 N (pA o116.2 17 (q : Int32).toNatClampNeg o116.1))
def dvE5 (N : Nat) (q : Int32) (S : Ms) : Option Ms := (fM_takeWord N 3 S).bind fun o103 => dvE6 N q o103
def dvE4 (N : Nat) (q : Int32) (S : Ms) : Option Ms := (fM_takeNumber N (mA S 15 (q : Int32).toNatClampNeg) 999999999 S).bind fun o97 => ck q 48 (dvE5 N q (pA o97.2 16 (q : Int32).toNatClampNeg o97.1))
def dvE3 (N : Nat) (q : Int32) (S : Ms) : Option Ms := (fM_takeWord N 2 S).bind fun o79 => ck q 48 (dvE4 N q o79)
def dvE2 (N : Nat) (q : Int32) (S : Ms) : Option Ms := (fM_takeNumber N 0 999999999 S).bind fun o73 => ck q 48 (dvE3 N q (pA o73.2 15 (q : Int32).toNatClampNeg o73.1))
def dvE1 (N : Nat) (q : Int32) (S : Ms) : Option Ms := (fM_takeWord N 1 S).bind fun o60 => dvE2 N q o60
theorem dv_def (N : Nat) (S : Ms) : fM_toldDevice N S = ck (mF S 12) 2 (ck (mF S 12) 2 (if (mA S 13 (mF S 12 : Int32).toNatClampNeg) = 24 then ((fM_wrong N 5 S).bind fun o34 => some o34) else ((fM_newName N (pF S 7 ((mF S 7) + 1))).bind fun o54 => ck ((24 * (mF S 12)) + (mA S 13 (mF S 12 : Int32).toNatClampNeg)) 48 (dvE1 N ((24 * (mF S 12)) + (mA S 13 (mF S 12 : Int32).toNatClampNeg)) (pL o54.2 14 ((24 * (mF S 12)) + (mA S 13 (mF S 12 : Int32).toNatClampNeg) : Int32).toNatClampNeg o54.1))))) := rfl
/-- dead to the end -/
def DO (b bn : Nat) (S : Ms) (f : Nat) (o : Option Ms) : Prop := ∃ S', o = some S' ∧ DS S' f ∧ AgO b S S' ∧ mF S' 12 = nI bn
theorem DO.pre {S S1 : Ms} {f : Nat} {o : Option Ms} (h : DO b bn S1 f o) (h1 : AgO b S S1) : DO b bn S f o := by
  obtain ⟨S', q1, q2, q3, q4⟩ := h
  exact ⟨S', q1, q2, h1.tr q3, q4⟩
theorem dd7 (hb : b = 0 ∨ b = 1) (hbn : bn = 1 - b) (N : Nat) {f : Nat} (h : DS S f) (h12 : mF S 12 = nI bn) : DO b bn S f (dvE7 N S) := by
  unfold dvE7
  rw [d_tS h, bs, h12, ck_n (show bn < 2 by omega) (by decide), ck_n (show bn < 2 by omega) (by decide), nI_clamp (by omega)]
  exact ⟨_, rfl, h, AgO.pA (ob_n hb hbn (w := 1) rfl (by decide) (by omega) (by omega)) _, h12⟩
theorem dd6 (hb : b = 0 ∨ b = 1) (hbn : bn = 1 - b) (hnd : nd < 24) (N : Nat) {f : Nat} (h : DS S f) (h12 : mF S 12 = nI bn) : DO b bn S f (dvE6 N (nI (24 * bn + nd)) S) := by
  unfold dvE6
  rw [d_tN h, bs, ck_n (show 24 * bn + nd < 48 by omega) (by decide), nI_clamp (by omega)]
  exact (dd7 hb hbn N (S := pA (pF S 7 (mF S 7 + 1)) 17 (24 * bn + nd) 0) h h12).pre ((AgO.pF o7 _).tr (AgO.pA (ob_n hb hbn (w := 24) rfl (by decide) (by omega) (by omega)) _))
theorem dd5 (hb : b = 0 ∨ b = 1) (hbn : bn = 1 - b) (hnd : nd < 24) (N : Nat) {f : Nat} (h : DS S f) (h12 : mF S 12 = nI bn) : DO b bn S f (dvE5 N (nI (24 * bn + nd)) S) := by
  unfold dvE5
  rw [d_tW h, bs]
  exact dd6 hb hbn hnd N h h12
theorem dd4 (hb : b = 0 ∨ b = 1) (hbn : bn = 1 - b) (hnd : nd < 24) (N : Nat) {f : Nat} (h : DS S f) (h12 : mF S 12 = nI bn) : DO b bn S f (dvE4 N (nI (24 * bn + nd)) S) := by
  unfold dvE4
  rw [d_tN h, bs, ck_n (show 24 * bn + nd < 48 by omega) (by decide), nI_clamp (by omega)]
  exact (dd5 hb hbn hnd N (S := pA (pF S 7 (mF S 7 + 1)) 16 (24 * bn + nd) 0) h h12).pre ((AgO.pF o7 _).tr (AgO.pA (ob_n hb hbn (w := 24) rfl (by decide) (by omega) (by omega)) _))
theorem dd3 (hb : b = 0 ∨ b = 1) (hbn : bn = 1 - b) (hnd : nd < 24) (N : Nat) {f : Nat} (h : DS S f) (h12 : mF S 12 = nI bn) : DO b bn S f (dvE3 N (nI (24 * bn + nd)) S) := by
  unfold dvE3
  rw [d_tW h, bs, ck_n (show 24 * bn + nd < 48 by omega) (by decide)]
  exact dd4 hb hbn hnd N h h12
theorem dd2 (hb : b = 0 ∨ b = 1) (hbn : bn = 1 - b) (hnd : nd < 24) (N : Nat) {f : Nat} (h : DS S f) (h12 : mF S 12 = nI bn) : DO b bn S f (dvE2 N (nI (24 * bn + nd)) S) := by
  unfold dvE2
  rw [d_tN h, bs, ck_n (show 24 * bn + nd < 48 by omega) (by decide), nI_clamp (by omega)]
  exact (dd3 hb hbn hnd N (S := pA (pF S 7 (mF S 7 + 1)) 15 (24 * bn + nd) 0) h h12).pre ((AgO.pF o7 _).tr (AgO.pA (ob_n hb hbn (w := 24) rfl (by decide) (by omega) (by omega)) _))
theorem dd1 (hb : b = 0 ∨ b = 1) (hbn : bn = 1 - b) (hnd : nd < 24) (N : Nat) {f : Nat} (h : DS S f) (h12 : mF S 12 = nI bn) : DO b bn S f (dvE1 N (nI (24 * bn + nd)) S) := by
  unfold dvE1
  rw [d_tW h, bs]
  exact dd2 hb hbn hnd N h h12
/-- the rows of devices of the station that is made -/
def DVR (z : Nat) (K : Ka) (M : Cm) (sm tok : Nat) : Prop := z + 174 ≤ sm ∧ kd K sm = 6 ∧ ∀ sl kind, (sl, kind) ∈ ([(0, 23), (1, 22), (2, 22), (3, 22)] : List (Nat × Nat)) → cR M sm sl = some (sm + 1 + sl) ∧ kd K (sm + 1 + sl) = kind ∧ le K (sm + 1 + sl) = min (tok / 9 + 1) 24
def dvC (M : Cm) (sm nd : Nat) (x : Int64) (fr to pc : Nat) : Cm := wI (wI (wI (wI (wL M (sm + 1) nd x) (sm + 2) nd (nI fr)) (sm + 3) nd (nI to)) (sm + 4) nd (nI pc)) sm 10 (nI (nd + 1))
theorem ad_ok (h : DVR z K M sm size) (N : Nat) (h10 : cI M sm 10 = nI nd) (hl : nd < min (size / 9 + 1) 24) (x : Int64) (fr to pc : Nat) : fC_X5_addDevice N K sm x (nI fr) (nI to) (nI pc) M = some (dvC M sm nd x fr to pc) := by
  obtain ⟨hz, hk, hr⟩ := h
  obtain ⟨r0, k0, l0⟩ := hr 0 23 (by decide)
  obtain ⟨r1, k1, l1⟩ := hr 1 22 (by decide)
  obtain ⟨r2, k2, l2⟩ := hr 2 22 (by decide)
  obtain ⟨r3, k3, l3⟩ := hr 3 22 (by decide)
  have hm : min (size / 9 + 1) 24 < 2 ^ 31 := by omega
  have i1 : ∀ v, cI (wL M (sm + 1) nd v) sm 10 = nI nd := fun v => h10
  have i2 : ∀ v w, cI (wI (wL M (sm + 1) nd v) (sm + 2) nd w) sm 10 = nI nd := fun v w => by rw [cI_wI_ne _ _ _ (show sm ≠ sm + 2 by omega)]; exact i1 v
  have i3 : ∀ v w y, cI (wI (wI (wL M (sm + 1) nd v) (sm + 2) nd w) (sm + 3) nd y) sm 10 = nI nd := fun v w y => by rw [cI_wI_ne _ _ _ (show sm ≠ sm + 3 by omega)]; exact i2 v w
  have i4 : ∀ v w y u, cI (wI (wI (wI (wL M (sm + 1) nd v) (sm + 2) nd w) (sm + 3) nd y) (sm + 4) nd u) sm 10 = nI nd := fun v w y u => by rw [cI_wI_ne _ _ _ (show sm ≠ sm + 4 by omega)]; exact i3 v w y
  unfold fC_X5_addDevice bC_X5_addDevice_64 dvC
  have r0' : cR M sm 0 = some (sm + 1) := r0
  have k0' : kd K (sm + 1) = 23 := k0
  have l0' : le K (sm + 1) = min (size / 9 + 1) 24 := l0
  have r1' : cR M sm 1 = some (sm + 2) := r1
  have k1' : kd K (sm + 2) = 22 := k1
  have l1' : le K (sm + 2) = min (size / 9 + 1) 24 := l1
  have r2' : cR M sm 2 = some (sm + 3) := r2
  have k2' : kd K (sm + 3) = 22 := k2
  have l2' : le K (sm + 3) = min (size / 9 + 1) 24 := l2
  have r3' : cR M sm 3 = some (sm + 4) := r3
  have k3' : kd K (sm + 4) = 22 := k3
  have l3' : le K (sm + 4) = min (size / 9 + 1) 24 := l3
  rw [gd_k hk, nn_s r0', gd_k k0', l0', h10, if_neg (nI_ge hl hm), nn_s r0', gd_k k0', l0', ck_n hl hm, nI_clamp (show nd < 2 ^ 31 by omega), cR_L, nn_s r1', gd_k k1', l1', i1, ck_n hl hm, nI_clamp (show nd < 2 ^ 31 by omega), cR_I, cR_L, nn_s r2', gd_k k2', l2', i2, ck_n hl hm, nI_clamp (show nd < 2 ^ 31 by omega), cR_I, cR_I, cR_L, nn_s r3', gd_k k3', l3', i3, ck_n hl hm, nI_clamp (show nd < 2 ^ 31 by omega), i4, nI_1]
end DEVICE
