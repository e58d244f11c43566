/-! a setting and a static whole -/
section ITS
variable {N z b bn sm size t nd nu nm iu u tu : Nat} {ex : Nat → Nat → Prop} {K0 K : Ka} {M M' M'' : Cm} {S S' S'' : Ms} {mk mk' : List Mk} {j : Jt} {rc cc a v rv dp n f : Nat}
/-- an item's name and the sign behind it -/
theorem ni_eq (hP : PS z b bn sm size t nd nu nm iu ex K0 K M S mk j rc cc a v rv dp) (hu : u < nu) (ht : cR M (sm + 6) u = some tu) (hN : 4010 < N) (x2 : Int32) (k : Int64 → Ka → Cm → Option ((Ka × Cm) ⊕ (Ka × Cm))) :
    (∃ ni ns x, cI M tu 8 = nI ni ∧ cI M tu 9 = nI ns ∧ ns ≤ 8 ∧ ni < 8 ∧ mA S 25 (24 * bn + u) = nI ni ∧ a + 2 ≤ t ∧ (∀ r, r < 25 → x ≠ kwT r) ∧ (∀ s, s < ni → mL S 26 (8 * (24 * bn + u) + s) ≠ x) ∧ (tb (fT_X3_takeNewItemName N (z + 7) tu K M) fun o12 => gd (kd o12.2.1 (z + 7) == 4) (tb (fT_X3_take N (z + 7) 61 o12.2.1 o12.2.2) fun o19 => k o12.1 o19.1 o19.2)) = k x K (mv z M (a + 2)) ∧ RIc N (nI (24 * bn + u)) x2 S = RIe N (nI (24 * bn + u)) x2 x (pF S 7 (nI (a + 2)))) ∨
    FB z b bn K0 M S 8010 (tb (fT_X3_takeNewItemName N (z + 7) tu K M) fun o12 => gd (kd o12.2.1 (z + 7) == 4) (tb (fT_X3_take N (z + 7) 61 o12.2.1 o12.2.2) fun o19 => k o12.1 o19.1 o19.2)) (RIc N (nI (24 * bn + u)) x2 S) := by
  have ht4 := hP.t4
  have hroom := hP.room
  have hz := hP.hz
  have n24 : nu ≤ 24 := hP.2.1.1.2.2.2.2.2.1
  have b2 : bn < 2 := by have := hP.1.2.1; omega
  rcases ni_ok hP hu ht N (by omega) x2 with ⟨ni, ns, q1, q2, q3, q4, q5, q6, q7, q8, q9, q10, q11, q12⟩ | ⟨f, f1, f2, f3⟩
  · rw [q11, tb_l, q12, i141 N _ _ (by omega) hP.m7]
    dsimp only
    have h1 := hP.tk (a' := a + 1) (by omega) (by omega)
    rw [gd_k hP.k7]
    rcases l_sign h1.2.2.1 N (c := 61) (by decide) (by decide) with ⟨-, g1, g2, g3⟩ | ⟨f, f1, f2, f3⟩
    · left
      have g2' : fT_X3_take N (z + 7) 61 K (mv z M (a + 1)) = some (.inl (K, mv z (mv z M (a + 1)) (a + 1 + 1))) := g2
      have g3' : fM_takeSign N 61 (pF S 7 (nI (a + 1))) = some (pF (pF S 7 (nI (a + 1))) 7 (nI (a + 1 + 1))) := g3
      refine ⟨ni, ns, mL S 6 a, q1, q2, q3, q4, q5, by omega, q9, q10, ?_, ?_⟩
      · rw [g2', tb_l, mv_mv]
      · rw [g3', bs, pF_pF]
    · right
      have f2' : fT_X3_take N (z + 7) 61 K (mv z M (a + 1)) = some (.inr (K, wI (mv z M (a + 1)) (z + 7) 5 (nI f))) := f2
      have f3' : fM_takeSign N 61 (pF S 7 (nI (a + 1))) = some (pF (pF S 7 (nI (a + 1))) 8 (nI f)) := f3
      have d := h1.dds f1
      obtain ⟨S2, d1, d2⟩ := dRIe (N := N) hP.1.1 hP.1.2.1 d (by omega) (by omega) (i := 24 * bn + u) (by omega) x2 (mL S 6 a)
      refine FB.fr ?_ (FR.mv (a + 1) (nI (a + 1)) hz)
      exact h1.fb f1 (by rw [f2', tb_r]) (by rw [f3', bs]; exact d1) (d2.le (by omega))
  · right
    have d := hP.dds f1
    obtain ⟨S2, d1, d2⟩ := d141 (N := N) hP.1.1 hP.1.2.1 d (by omega) (by omega) (i := 24 * bn + u) (by omega) x2 (a := a) (by omega) hP.m7
    exact hP.fb f1 (by rw [f2, tb_r]) (by rw [f3]; exact d1) (d2.le (by omega))
theorem it_set {r : Nat} (hP : PS z b bn sm size t nd nu nm iu ex K0 K M S mk (0, [], r) rc cc a (v + 1) 0 0) (hr : r ≤ 90) (hu : u < nu) (ht : cR M (sm + 6) u = some tu) (hk : cI M (z + 3) a = nI 140) (hN : 4010 < N) :
    IO z b bn sm size t nd nu nm iu tu ex K0 K M S mk a (v + 1) (fT_X3_readSetting N (z + 7) tu K M) (fM_item N (nI (24 * bn + u)) S) := by
  have ht4 := hP.t4
  have hroom := hP.room
  have hz := hP.hz
  have n24 : nu ≤ 24 := hP.2.1.1.2.2.2.2.2.1
  have b2 : bn < 2 := by have := hP.1.2.1; omega
  obtain ⟨p1, p2, fl, p3⟩ := id hP.2.1.2.2.1
  obtain ⟨⟨tu', hA, hB, -⟩, -⟩ := p3 u hu
  have et : tu' = tu := by have := hA.1; rw [ht] at this; cases this; rfl
  subst et
  have htu := hA.2.1
  have tn : tu' ≠ z + 7 := by omega
  have hl : a < t := hP.2.2.1.lt (by rw [hk]; decide)
  have ref : fM_item N (nI (24 * bn + u)) S = RIc N (nI (24 * bn + u)) 1 (pF S 7 (nI (a + 1))) := by
    have w12 : fM_isWord N 12 S = some (1, S) := by
      rcases k_word hP.2.2.1 N (w := 12) (by decide) with y | y
      · exact y.2
      · exact absurd hk y.1
    unfold fM_item
    rw [w12, bs]
    dsimp only
    rw [if_neg (by decide)]
    unfold bM_item_25 bM_item_40 RIc
    rw [if_neg (by decide), hP.m7, nI_1]
  have cls : fT_X3_readSetting N (z + 7) tu' K M = (tb (fT_X3_takeNewItemName N (z + 7) tu' K (mv z M (a + 1))) fun o12 => gd (kd o12.2.1 (z + 7) == 4) (tb (fT_X3_take N (z + 7) 61 o12.2.1 o12.2.2) fun o19 => (bT_X3_readSetting_22 N) (z + 7) tu' o12.1 o19.1 o19.2)) := by
    unfold fT_X3_readSetting bT_X3_readSetting_15
    rw [gd_k hP.k7, hP.mvC N hl, bs]
  rw [ref, cls]
  have h1 := hP.tk (a' := a + 1) (by omega) (by omega)
  have ht1 : cR (mv z M (a + 1)) (sm + 6) u = some tu' := ht
  refine FR.io (a := a + 1) ?_ (FR.mv (a + 1) (nI (a + 1)) hz) tn (by omega) (by omega)
  rcases ni_eq h1 hu ht1 hN 1 (fun x K M => bT_X3_readSetting_22 N (z + 7) tu' x K M) with ⟨ni, ns, x, q1, q2, q3, q4, q5, q6, q7, q8, q9, q10⟩ | q
  · rw [q9, q10, mv_mv, pF_pF]
    have h3 := (hP.tk (a' := a + 3) (by omega) (by omega)).less (v' := v + 1) (by omega)
    have i8 : cI (mv z M (a + 3)) tu' 8 = nI ni := by
      rw [mv_I _ tn] at q1 ⊢
      exact q1
    have i9 : cI (mv z M (a + 3)) tu' 9 = nI ns := by
      rw [mv_I _ tn] at q2 ⊢
      exact q2
    have ck2 : ∀ {ρ : Type} (q : Option ρ), ck (nI (24 * bn + u)) 48 q = q := fun q => ck_n (by omega) (by decide)
    have e8 : (8 : Int32) * nI (24 * bn + u) + nI ni = nI (8 * (24 * bn + u) + ni) := by rw [show (8 : Int32) = nI 8 from rfl, nI_mul, nI_add]
    have f3 : FR z b sm K0 (mv z M (a + 1)) (mv z M (a + 3)) (pF S 7 (nI (a + 1))) (pF S 7 (nI (a + 3))) := by
      have := FR.mv (z := z) (b := b) (sm := sm) (K0 := K0) (M := mv z M (a + 1)) (S := pF S 7 (nI (a + 1))) (a + 3) (nI (a + 3)) hz
      rw [mv_mv, pF_pF] at this
      exact this
    refine FR.io (a := a + 3) ?_ f3 tn (by omega) (by omega)
    unfold bT_X3_readSetting_22 RIe bM_item_219
    rw [gd_k hP.k7, ck2, if_neg (show ¬ (1 : Int32) = 0 by decide), nI_clamp (show 24 * bn + u < 2 ^ 31 by omega), show mA (pF S 7 (nI (a + 1 + 2))) 25 (24 * bn + u) = nI ni from q5, e8]
    show IO z b bn sm size t nd nu nm iu tu' ex K0 K (mv z M (a + 3)) (pF S 7 (nI (a + 3))) mk (a + 3) (v + 1) (if cI (mv z M (a + 3)) (z + 7) 3 = 45 then bT_X3_readSetting_36 N (z + 7) tu' x 1 K (mv z M (a + 3)) else bT_X3_readSetting_36 N (z + 7) tu' x 0 K (mv z M (a + 3))) ((fM_hasSign N 45 (pF S 7 (nI (a + 3)))).bind fun o191 => (fM_takeNumber N 0 999999999 o191.2).bind fun o201 => if o191.1 = 0 then bM_item_244 N (nI (24 * bn + u)) 1 x (nI (8 * (24 * bn + u) + ni)) o201.1 o201.2 else bM_item_244 N (nI (24 * bn + u)) 1 x (nI (8 * (24 * bn + u) + ni)) (-o201.1) o201.2)
    rw [h3.kn]
    by_cases k45 : cI (mv z M (a + 3)) (z + 3) (a + 3) = nI 45
    · obtain ⟨l1, l2⟩ := h3.yS N (c := 45) (by decide) (by decide) k45
      have l2' : fM_hasSign N 45 (pF S 7 (nI (a + 3))) = some (1, pF (pF S 7 (nI (a + 3))) 7 (nI (a + 3 + 1))) := l2
      rw [if_pos (show _ = (45 : Int32) from k45), l2', bs, pF_pF]
      dsimp only
      unfold bT_X3_readSetting_36
      rw [if_neg (by decide), gd_k hP.k7, h3.mvC N l1, bs, mv_mv]
      have h4 := (hP.tk (a' := a + 4) (by omega) (by omega)).less (v' := v + 1) (by omega)
      have f4 : FR z b sm K0 (mv z M (a + 3)) (mv z M (a + 4)) (pF S 7 (nI (a + 3))) (pF S 7 (nI (a + 4))) := by
        have := FR.mv (z := z) (b := b) (sm := sm) (K0 := K0) (M := mv z M (a + 3)) (S := pF S 7 (nI (a + 3))) (a + 4) (nI (a + 4)) hz
        rw [mv_mv, pF_pF] at this
        exact this
      have i8' : cI (mv z M (a + 4)) tu' 8 = nI ni := by
        rw [mv_I _ tn] at q1 ⊢
        exact q1
      have i9' : cI (mv z M (a + 4)) tu' 9 = nI ns := by
        rw [mv_I _ tn] at q2 ⊢
        exact q2
      exact FR.io (a := a + 4) (set_tail (N := N) (x := x) (x4 := 1) h4 hr hu ht i8' i9' q3 q4 q5 q7 q8 (Or.inr rfl) hN) f4 tn (by omega) (by omega)
    · have l2' : fM_hasSign N 45 (pF S 7 (nI (a + 3))) = some (0, pF S 7 (nI (a + 3))) := h3.nS N (c := 45) (by decide) (by decide) k45
      rw [if_neg (show ¬ _ = (45 : Int32) from k45), l2', bs]
      dsimp only
      unfold bT_X3_readSetting_36
      rw [if_pos rfl]
      exact set_tail (N := N) (x := x) (x4 := 0) h3 hr hu ht i8 i9 q3 q4 q5 q7 q8 (Or.inl rfl) hN
  · exact Or.inr (q.le (by omega))
end ITS
