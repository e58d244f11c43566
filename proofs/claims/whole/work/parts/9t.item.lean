/-! an item's name, a setting -/
/-- the reference behind the word setting or static -/
def RIc (N : Nat) (x1 x2 : Int32) (S : Ms) : Option Ms := if (mF S 8) = 0 then ((fM_isName N S).bind fun o59 => if o59.1 = 0 then ((fM_wrong N 1 o59.2).bind fun o67 => (bM_item_141 N) x1 x2 o67) else ((bM_item_73 N) x1 x2 o59.2)) else ((bM_item_73 N) x1 x2 S)
/-- behind its name and the sign -/
def RIe (N : Nat) (x1 x2 : Int32) (x4 : Int64) (S : Ms) : Option Ms := ck x1 48 (if x2 = 0 then ((fG_expression N S).bind fun o225 => ck x1 48 ((fM_emit N 5 (mF o225 49) (mA o225 25 (x1 : Int32).toNatClampNeg) o225).bind fun o240 => (bM_item_244 N) x1 x2 x4 ((8 * x1) + (mA S 25 (x1 : Int32).toNatClampNeg)) 0 o240.2)) else ((fM_hasSign N 45 S).bind fun o191 => (fM_takeNumber N 0 999999999 o191.2).bind fun o201 => if o191.1 = 0 then ((bM_item_219 N) x1 x2 x4 ((8 * x1) + (mA S 25 (x1 : Int32).toNatClampNeg)) o201.1 o201.2) else ((bM_item_219 N) x1 x2 x4 ((8 * x1) + (mA S 25 (x1 : Int32).toNatClampNeg)) (-o201.1) o201.2)))
section ITEM
variable {N z b bn sm size t nd nu nm iu u tu : Nat} {ex : Nat → Nat → Prop} {K0 K : Ka} {M M' M'' : Cm} {S S' S'' : Ms} {mk mk' : List Mk} {j : Jt} {rc cc a v rv dp n f : Nat}
theorem i141 (N : Nat) (x1 x2 : Int32) (ha : a < 4002) (h7 : mF S 7 = nI a) : bM_item_141 N x1 x2 S = ((fM_takeSign N 61 (pF S 7 (nI (a + 1)))).bind fun o => RIe N x1 x2 (mL S 6 a) o) := by
  unfold bM_item_141 RIe
  rw [h7, nI_1, ck_n ha (by decide), nI_clamp (by omega)]
theorem d244 {S1 : Ms} (d : DDs b bn n S f S1) (N : Nat) (x1 x2 : Int32) (x4 : Int64) (x6 x7 : Int32) : bM_item_244 N x1 x2 x4 x6 x7 S1 = some S1 := by
  unfold bM_item_244
  rw [d_tS d.1, bs, if_neg d.1.n1]
theorem dRIe {S1 : Ms} (hb : b = 0 ∨ b = 1) (hbn : bn = 1 - b) (d : DDs b bn n S f S1) (hn : n < 9900) (hN : 1 < N) {i : Nat} (hi : i < 48) (x2 : Int32) (x4 : Int64) : ∃ S2, RIe N (nI i) x2 x4 S1 = some S2 ∧ DDs b bn (n + 1) S f S2 := by
  have c2 : ∀ {ρ : Type} (q : Option ρ), ck (nI i) 48 q = q := fun q => ck_n hi (by decide)
  unfold RIe bM_item_219
  rw [c2]
  by_cases q : x2 = 0
  · rw [if_pos q]
    have eP : fG_expression N S1 = gP N 120 5 S1 := rfl
    obtain ⟨r, S2, g1, g2, g3⟩ := d.em hb hbn (by omega) N 5 (mF S1 49) (mA S1 25 (nI i : Int32).toNatClampNeg)
    refine ⟨S2, ?_, g3⟩
    rw [eP, gd5' N hN (by decide) d.1, bs, c2, g2, bs]
    exact d244 g3 N _ _ _ _ _
  · rw [if_neg q, d_hS d.1, bs]
    dsimp only
    rw [d_tN d.1, bs]
    dsimp only
    rw [if_pos rfl]
    exact ⟨_, d244 (d.p7 _) N _ _ _ _ _, (d.p7 _).le (by omega)⟩
theorem d141 {S1 : Ms} (hb : b = 0 ∨ b = 1) (hbn : bn = 1 - b) (d : DDs b bn n S f S1) (hn : n < 9900) (hN : 1 < N) {i : Nat} (hi : i < 48) (x2 : Int32) (ha : a < 4002) (h7 : mF S1 7 = nI a) : ∃ S2, bM_item_141 N (nI i) x2 S1 = some S2 ∧ DDs b bn (n + 1) S f S2 := by
  rw [i141 N _ _ ha h7]
  have d' := d.p7 (nI (a + 1))
  rw [d_tS d'.1, bs]
  exact dRIe hb hbn d' hn hN hi x2 _
/-- a new name of an item, or both refuse -/
theorem ni_ok (hP : PS z b bn sm size t nd nu nm iu ex K0 K M S mk j rc cc a v rv dp) (hu : u < nu) (ht : cR M (sm + 6) u = some tu) (N : Nat) (hN : 30 < N) (x2 : Int32) :
    (∃ ni ns, cI M tu 8 = nI ni ∧ cI M tu 9 = nI ns ∧ ns ≤ 8 ∧ ni < 8 ∧ mA S 25 (24 * bn + u) = nI ni ∧ mA S 30 (24 * bn + u) = nI (ni - ns) ∧ mA S 31 (24 * bn + u) = nI ns ∧ a < t ∧ (∀ r, r < 25 → mL S 6 a ≠ kwT r) ∧ (∀ s, s < ni → mL S 26 (8 * (24 * bn + u) + s) ≠ mL S 6 a) ∧ fT_X3_takeNewItemName N (z + 7) tu K M = some (.inl (mL S 6 a, K, mv z M (a + 1))) ∧ RIc N (nI (24 * bn + u)) x2 S = bM_item_141 N (nI (24 * bn + u)) x2 S) ∨
    (∃ f, FLT f ∧ fT_X3_takeNewItemName N (z + 7) tu K M = some (.inr (K, wI M (z + 7) 5 (nI f))) ∧ RIc N (nI (24 * bn + u)) x2 S = bM_item_141 N (nI (24 * bn + u)) x2 (pF S 8 (nI f))) := by
  have ht4 := hP.t4
  have n24 : nu ≤ 24 := hP.2.1.1.2.2.2.2.2.1
  have b2 : bn < 2 := by have := hP.1.2.1; omega
  obtain ⟨p1, p2, fl, p3⟩ := hP.2.1.2.2.1
  obtain ⟨⟨tu', a1, ⟨ni, ns, b1, b3, b4, b5, b6, b7, b8, b9, b10, b11, b12, b13⟩, a3⟩, a4⟩ := p3 u hu
  have et : tu' = tu := by have := a1.1; rw [ht] at this; cases this; rfl
  subst et
  have r3 := a1.2.2.2.1 3 23 8 (by decide)
  have e3 : tu' + 3 - 1 = tu' + 2 := by omega
  rw [e3] at r3
  have row : NRow K M S tu' 3 26 (8 * (24 * bn + u)) ni := ⟨tu' + 2, r3.1, r3.2.1, by rw [r3.2.2]; omega, by rw [r3.2.2]; decide, fun d hd => (b10 d hd).1, b9⟩
  have k8 := a1.2.2.1
  have e8 : (8 : Int32) * nI (24 * bn + u) = nI (8 * (24 * bn + u)) := by rw [show (8 : Int32) = nI 8 from rfl, nI_mul]
  have ck48 : ∀ {ρ : Type} (q : Option ρ), ck (nI (24 * bn + u)) 48 q = q := fun q => ck_n (by omega) (by decide)
  have bad : ∀ w, 1 ≤ w → w ≤ 16 → (∃ k : Ka × Cm → Option ((Int64 × Ka × Cm) ⊕ (Ka × Cm)), fT_X3_takeNewItemName N (z + 7) tu' K M = tb (fT_X3_refuse N (z + 7) (nI w) K M) k) → RIc N (nI (24 * bn + u)) x2 S = ((fM_wrong N (nI w) S).bind fun o67 => (bM_item_141 N) (nI (24 * bn + u)) x2 o67) → (∃ f, FLT f ∧ fT_X3_takeNewItemName N (z + 7) tu' K M = some (.inr (K, wI M (z + 7) 5 (nI f))) ∧ RIc N (nI (24 * bn + u)) x2 S = bM_item_141 N (nI (24 * bn + u)) x2 (pF S 8 (nI f))) := fun w h1 h2 hc hr => by
    obtain ⟨f, f1, f2, f3⟩ := rf_nI hP.2.2.1 N (w := w) h1 h2
    obtain ⟨k, hc⟩ := hc
    exact ⟨f, f1, by rw [hc, f2, tb_r], by rw [hr, f3, bs]⟩
  rcases k_name hP.2.2.1 N hN with ⟨e, m, vv, kw⟩ | ⟨e, m⟩
  · have hl : a < t := hP.2.2.1.lt (by rw [e]; decide)
    have cls : fT_X3_takeNewItemName N (z + 7) tu' K M = ((fC_X8_rankOf N K (mL S 6 a) (tu' + 2) (nI ni) M).bind fun o34 => if o34.1 < 0 then ((bT_X3_takeNewItemName_45 N) (z + 7) tu' (mL S 6 a) K o34.2) else (tb (fT_X3_refuse N (z + 7) 3 K o34.2) fun o42 => (bT_X3_takeNewItemName_45 N) (z + 7) tu' (mL S 6 a) o42.1 o42.2)) := by
      unfold fT_X3_takeNewItemName bT_X3_takeNewItemName_13
      rw [gd_k hP.k7, if_pos (hP.kn.trans e), gd_k hP.k7, nn_s hP.r70, gd_k hP.k1, hP.at, va_ok hP.2.2.1 N (show a ≤ t by omega), bs]
      dsimp only
      rw [gd_k k8, nn_s r3.1, b4, vv]
    have ref : RIc N (nI (24 * bn + u)) x2 S = ((fM_find N 26 (nI (8 * (24 * bn + u))) (nI ni) (mL S 6 a) S).bind fun o104 => if o104.1 < 0 then ((bM_item_118 N) (nI (24 * bn + u)) x2 o104.2) else ((fM_wrong N 3 o104.2).bind fun o112 => (bM_item_141 N) (nI (24 * bn + u)) x2 o112)) := by
      unfold RIc bM_item_73
      rw [if_pos hP.f0, m, bs]
      dsimp only
      rw [if_neg (by decide), if_pos hP.f0, ck48, hP.m7, ck_n (show a < 4002 by omega) (by decide), nI_clamp (show a < 2 ^ 31 by omega), nI_clamp (show 24 * bn + u < 2 ^ 31 by omega), e8, b5]
    obtain ⟨q, q1, q2⟩ := row.find N (by omega) rfl (by show 8 * (24 * bn + u) + ni ≤ 384; omega) (by decide) (mL S 6 a)
    have eq : q = tu' + 2 := by rw [r3.1] at q1; cases q1; rfl
    subst eq
    rcases q2 with ⟨k, k1, k2, k3, k4⟩ | ⟨k2, k3, k4⟩
    · right
      refine bad 3 (by decide) (by decide) ⟨fun o42 => (bT_X3_takeNewItemName_45 N) (z + 7) tu' (mL S 6 a) o42.1 o42.2, ?_⟩ ?_
      · rw [cls, k3, bs]; dsimp only; rw [if_neg (nI_pos (by omega))]; rfl
      · rw [ref, k4, bs]; dsimp only; rw [if_neg (nI_pos (by omega))]; rfl
    · by_cases hn : ni < 8
      · left
        refine ⟨ni, ns, b4, b6, by omega, hn, b5, b8, b7, hl, kw, k2, ?_, ?_⟩
        · rw [cls, k3, bs]; dsimp only
          rw [if_pos (by decide)]
          unfold bT_X3_takeNewItemName_45 bT_X3_takeNewItemName_59
          rw [gd_k k8, b4, if_pos (show nI ni < 8 from nI_lt (b := 8) hn (by decide)), gd_k hP.k7, hP.mvC N hl, bs]
        · rw [ref, k4, bs]; dsimp only
          rw [if_pos (by decide)]
          unfold bM_item_118
          rw [if_pos hP.f0, ck48, nI_clamp (show 24 * bn + u < 2 ^ 31 by omega), b5, if_neg (show ¬ nI ni = 8 from fun y => by have := (nI_eq (b := 8) (by omega) (by decide)).mp y; omega)]
      · right
        have e88 : ni = 8 := by omega
        subst e88
        refine bad 5 (by decide) (by decide) ⟨fun o56 => (bT_X3_takeNewItemName_59 N) (z + 7) (mL S 6 a) o56.1 o56.2, ?_⟩ ?_
        · rw [cls, k3, bs]; dsimp only
          rw [if_pos (by decide)]
          unfold bT_X3_takeNewItemName_45
          rw [gd_k k8, b4, if_neg (by decide), gd_k hP.k7]; rfl
        · rw [ref, k4, bs]; dsimp only
          rw [if_pos (by decide)]
          unfold bM_item_118
          rw [if_pos hP.f0, ck48, nI_clamp (show 24 * bn + u < 2 ^ 31 by omega), b5, if_pos (by decide)]; rfl
  · right
    refine bad 1 (by decide) (by decide) ⟨fun o10 => (bT_X3_takeNewItemName_13 N) (z + 7) tu' o10.1 o10.2, ?_⟩ ?_
    · unfold fT_X3_takeNewItemName
      rw [gd_k hP.k7, if_neg (fun y => e (hP.kn.symm.trans y))]; rfl
    · unfold RIc
      rw [if_pos hP.f0, m, bs]
      dsimp only
      rw [if_pos rfl]; rfl
/-- what an item ends with -/
def IO (z b bn sm size t nd nu nm iu tu : Nat) (ex : Nat → Nat → Prop) (K0 K : Ka) (M : Cm) (S : Ms) (mk : List Mk) (a v : Nat) (c : Option ((Ka × Cm) ⊕ (Ka × Cm))) (o : Option Ms) : Prop :=
  (∃ M' S' rc' cc' a' r', c = some (.inl (K, M')) ∧ o = some S' ∧ a < a' ∧ r' ≤ 90 ∧ FI z b sm tu K0 M M' S S' ∧ PS z b bn sm size t nd nu nm iu ex K0 K M' S' mk (0, [], r') rc' cc' a' v 0 0) ∨ FB z b bn K0 M S 9000 c o
def seC (M : Cm) (tu ni : Nat) (x : Int64) (w : Int32) : Cm := wI (wI (wL M (tu + 2) ni x) (tu + 3) ni w) tu 8 (nI (ni + 1))
theorem ase_ok {ni : Nat} {w : Int32} (hA : UA K M S bn sm u tu) (h8 : cI M tu 8 = nI ni) (hn : ni < 8) (N : Nat) (x : Int64) : fC_X7_addSetting N K tu x w M = some (seC M tu ni x w) := by
  have r3 := hA.2.2.2.1 3 23 8 (by decide)
  have r4 := hA.2.2.2.1 4 22 8 (by decide)
  have e3 : tu + 3 - 1 = tu + 2 := by omega
  have e4 : tu + 4 - 1 = tu + 3 := by omega
  rw [e3] at r3
  rw [e4] at r4
  have cl : (nI ni).toNatClampNeg = ni := nI_clamp (by omega)
  have r4' : cR (wL M (tu + 2) ni x) tu 4 = some (tu + 3) := r4.1
  have i8 : cI (wL M (tu + 2) ni x) tu 8 = nI ni := h8
  unfold fC_X7_addSetting bC_X7_addSetting_39 seC
  rw [gd_k hA.2.2.1, h8, if_neg (show ¬ (8 : Int32) ≤ nI ni from nI_ge (b := 8) hn (by decide)), nn_s r3.1, gd_k r3.2.1, r3.2.2, ck_n hn (by decide), cl, nn_s r4', gd_k r4.2.1, r4.2.2, i8, ck_n hn (by decide), cl, cI_wI_ne _ _ _ (show tu ≠ tu + 3 by omega), i8, nI_1]
theorem FR.io {c : Option ((Ka × Cm) ⊕ (Ka × Cm))} {o : Option Ms} {a0 : Nat} (q : IO z b bn sm size t nd nu nm iu tu ex K0 K M' S' mk a v c o) (hf : FR z b sm K0 M M' S S') (h1 : tu ≠ z + 7) (h2 : sm + 11 ≤ tu) (ha : a0 ≤ a) : IO z b bn sm size t nd nu nm iu tu ex K0 K M S mk a0 v c o := by
  rcases q with ⟨M1, S1, rc1, cc1, a1, r1, q1, q2, q3, q4, q5, q6⟩ | q
  · exact Or.inl ⟨M1, S1, rc1, cc1, a1, r1, q1, q2, by omega, q4, (hf.fi h1 h2).tr q5, q6⟩
  · exact Or.inr (q.fr hf)
/-- the number of a setting, and the sign behind it -/
theorem set_tail {r ni ns : Nat} {x : Int64} {x4 : Int32} (hP : PS z b bn sm size t nd nu nm iu ex K0 K M S mk (0, [], r) rc cc a (v + 1) 0 0) (hr : r ≤ 90) (hu : u < nu) (ht : cR M (sm + 6) u = some tu) (h8 : cI M tu 8 = nI ni) (h9 : cI M tu 9 = nI ns) (hns : ns ≤ 8) (hn : ni < 8) (h25 : mA S 25 (24 * bn + u) = nI ni) (hkw : ∀ r, r < 25 → x ≠ kwT r) (hx : ∀ s, s < ni → mL S 26 (8 * (24 * bn + u) + s) ≠ x) (hx4 : x4 = 0 ∨ x4 = 1) (hN : 4010 < N) :
    IO z b bn sm size t nd nu nm iu tu ex K0 K M S mk a (v + 1) (bT_X3_readSetting_53 N (z + 7) tu x x4 K M) ((fM_takeNumber N 0 999999999 S).bind fun o201 => bM_item_244 N (nI (24 * bn + u)) 1 x (nI (8 * (24 * bn + u) + ni)) (if x4 = 0 then o201.1 else -o201.1) o201.2) := by
  have ht4 := hP.t4
  have hroom := hP.room
  have hz := hP.hz
  have n24 : nu ≤ 24 := hP.2.1.1.2.2.2.2.2.1
  have b2 : bn < 2 := by have := hP.1.2.1; omega
  obtain ⟨p1, p2, fl, p3⟩ := id hP.2.1.2.2.1
  obtain ⟨⟨tu', hA, hB, -⟩, -⟩ := p3 u hu
  have et : tu' = tu := by have := hA.1; rw [ht] at this; cases this; rfl
  subst et
  have htu := hA.2.1
  have c53 : bT_X3_readSetting_53 N (z + 7) tu' x x4 K M = tb (fT_X3_takeNumber N (z + 7) 0 999999999 K M) fun o57 => (bT_X3_readSetting_60 N) (z + 7) tu' x x4 o57.1 o57.2.1 o57.2.2 := by
    unfold bT_X3_readSetting_53
    rw [gd_k hP.k7]
  rw [c53]
  rcases l_numb hP.2.2.1 N (lo := 0) (hi := 999999999) (by decide) (by decide) with ⟨q, -, -, q3, q4, q5, q6, q7⟩ | ⟨f, f1, f2, f3⟩
  · have q6' : fT_X3_takeNumber N (z + 7) 0 999999999 K M = some (.inl (nI q, K, mv z M (a + 1))) := q6
    have q7' : fM_takeNumber N 0 999999999 S = some (nI q, pF S 7 (nI (a + 1))) := q7
    rw [q6', q7', tb_l, bs]
    dsimp only
    have h1 := hP.tk (a' := a + 1) (by omega) (by omega)
    refine FR.io (a := a + 1) ?_ (FR.mv (a + 1) (nI (a + 1)) hz) (by omega) htu.1 (by omega)
    have c60 : bT_X3_readSetting_60 N (z + 7) tu' x x4 (nI q) K (mv z M (a + 1)) = tb (fT_X3_take N (z + 7) 59 K (mv z M (a + 1))) fun o65 => (bT_X3_readSetting_68 N) (z + 7) tu' x x4 (nI q) o65.1 o65.2 := by
      unfold bT_X3_readSetting_60
      rw [gd_k hP.k7]
    rw [c60]
    unfold bM_item_244
    rcases l_sign h1.2.2.1 N (c := 59) (by decide) (by decide) with ⟨-, g1, g2, g3⟩ | ⟨f, f1, f2, f3⟩
    · have g2' : fT_X3_take N (z + 7) 59 K (mv z M (a + 1)) = some (.inl (K, mv z (mv z M (a + 1)) (a + 1 + 1))) := g2
      have g3' : fM_takeSign N 59 (pF S 7 (nI (a + 1))) = some (pF (pF S 7 (nI (a + 1))) 7 (nI (a + 1 + 1))) := g3
      rw [g2', tb_l, g3', bs, mv_mv, pF_pF]
      dsimp only
      have h2 := hP.tk (a' := a + 2) (by omega) (by omega)
      generalize hw : (if x4 = 0 then nI q else -nI q) = w
      have c68 : bT_X3_readSetting_68 N (z + 7) tu' x x4 (nI q) K (mv z M (a + 2)) = ((fC_X7_addSetting N K tu' x w (mv z M (a + 2))).bind fun o83 => some (.inl (K, o83))) := by
        unfold bT_X3_readSetting_68 bT_X3_readSetting_83
        rcases hx4 with y | y
        · subst y
          rw [if_pos rfl] at hw
          rw [if_pos rfl, gd_k hA.2.2.1, hw]
        · subst y
          rw [if_neg (by decide)] at hw
          rw [if_neg (by decide), gd_k hA.2.2.1, hw]
      have tn : tu' ≠ z + 7 := by omega
      have hA2 : UA K (mv z M (a + 2)) S bn sm u tu' := by
        unfold UA at hA ⊢
        rw [mv_I _ tn, mv_I _ (show tu' + 1 ≠ z + 7 by omega)]
        exact hA
      rw [show a + 1 + 1 = a + 2 from rfl, c68, ase_ok hA2 (by rw [mv_I _ tn]; exact h8) hn N x, bs]
      obtain ⟨S3, s1, s2, s3, s4, s5, s6, s7, s8, s9, s10, s11, s12⟩ := i244 (S := pF S 7 (nI (a + 2))) N (i := 24 * bn + u) (ni := ni) (by omega) hn (x2 := 1) (Or.inr rfl) x w h2.f0
      rw [s1]
      have m2 : ∀ s, cL (seC (mv z M (a + 2)) tu' ni x w) (tu' + 2) s = if s = ni then x else cL M (tu' + 2) s := fun s => by
        unfold seC
        rw [cL_I, cL_I, cL_w]
        by_cases y : s = ni
        · rw [if_pos ⟨rfl, y⟩, if_pos y]
        · rw [if_neg (fun y' => y y'.2), if_neg y]; rfl
      have m3 : ∀ s, cI (seC (mv z M (a + 2)) tu' ni x w) (tu' + 3) s = if s = ni then w else cI M (tu' + 3) s := fun s => by
        unfold seC
        rw [cI_wI_ne _ _ _ (by omega), cI_w]
        by_cases y : s = ni
        · rw [if_pos ⟨rfl, y⟩, if_pos y]
        · rw [if_neg (fun y' => y y'.2), if_neg y]; exact congrFun (mv_I (a + 2) (by omega)) s
      have mo : ∀ y, y ≠ tu' → y ≠ tu' + 3 → cI (seC (mv z M (a + 2)) tu' ni x w) y = cI (mv z M (a + 2)) y := fun y h1 h2 => by
        unfold seC
        rw [cI_wI_ne _ _ _ h1, cI_wI_ne _ _ _ h2]; rfl
      have mt : ∀ s, cI (seC (mv z M (a + 2)) tu' ni x w) tu' s = if s = 8 then nI (ni + 1) else cI M tu' s := fun s => by
        unfold seC
        rw [cI_w]
        by_cases y : s = 8
        · rw [if_pos ⟨rfl, y⟩, if_pos y]
        · rw [if_neg (fun y' => y y'.2), if_neg y, cI_wI_ne _ _ _ (by omega)]; exact congrFun (mv_I (a + 2) tn) s
      have ml : ∀ y, y ≠ tu' + 2 → cL (seC (mv z M (a + 2)) tu' ni x w) y = cL (mv z M (a + 2)) y := fun y hy => by
        unfold seC
        rw [cL_I, cL_I, cL_wL_ne _ _ _ hy]
      have hB2 : UB (seC (mv z M (a + 2)) tu' ni x w) S3 bn u tu' := by
        refine hB.sett h8 h9 hns hn hkw hx (by rw [mt, if_pos rfl]) (by rw [mt, if_neg (by decide)]; exact h9) m2 m3 (by rw [mo (tu' + 4) (by omega) (by omega), mv_I _ (by omega)]) ?_ ?_ ?_ s8 s10 s11 (fun i hi => by rw [s12, if_neg hi]; rfl)
        · rw [s5, if_pos rfl, show mA (pF S 7 (nI (a + 2))) 25 (24 * bn + u) = nI ni from h25, nI_1]
        · rw [s6, if_pos rfl]; rfl
        · rw [s7, if_pos rfl]
          show mA S 31 (24 * bn + u) + (1 - 1) = _
          rw [show (1 : Int32) - 1 = 0 from rfl, Int32.add_zero]
      have t25 : ∀ i, mA S3 25 i = if i = 24 * bn + u then nI (ni + 1) else mA (pF S 7 (nI (a + 2))) 25 i := by
        intro i
        rw [s5]
        by_cases y : i = 24 * bn + u
        · rw [if_pos y, if_pos y, show mA (pF S 7 (nI (a + 2))) 25 (24 * bn + u) = nI ni from h25, nI_1]
        · rw [if_neg y, if_neg y]
      have tB : ∀ k, k = 30 ∨ k = 31 → ∀ i, i ≠ 24 * bn + u → mA S3 k i = mA (pF S 7 (nI (a + 2))) k i := by
        intro k hk i hi
        rcases hk with y | y
        · subst y
          rw [s6, if_neg hi]
        · subst y
          rw [s7, if_neg hi]
      have tC : ∀ k, k = 27 ∨ k = 28 ∨ k = 29 → ∀ i, i ≠ 8 * (24 * bn + u) + ni → mA S3 k i = mA (pF S 7 (nI (a + 2))) k i := by
        intro k hk i hi
        rcases hk with y | y | y
        · subst y
          rw [s10, if_neg hi]
        · subst y
          rw [s11, if_neg hi]
        · subst y
          rw [s12, if_neg hi]
      have tab := h2.tab (u := u) (tu := tu') (ni := ni) (M' := seC (mv z M (a + 2)) tu' ni x w) (S' := S3) hu ht (by omega) hn h25 (fun y h1 h2 h3 => mo y h1 h2) (fun s h1 h2 => by rw [mt, if_neg h1, mv_I _ tn]) ml rfl s2 s3 t25 tB tC s4 (fun i hi => by rw [s8, if_neg hi]) s9 hB2
      have hf1 : FI z b sm tu' K0 (mv z M (a + 1)) (mv z M (a + 2)) (pF S 7 (nI (a + 1))) (pF S 7 (nI (a + 2))) := by
        have := (FR.mv (z := z) (b := b) (sm := sm) (K0 := K0) (M := mv z M (a + 1)) (S := pF S 7 (nI (a + 1))) (a + 2) (nI (a + 2)) hz).fi tn (by omega)
        rw [mv_mv, pF_pF] at this
        exact this
      exact Or.inl ⟨_, S3, rc, cc, a + 2, r, rfl, rfl, by omega, hr, hf1.tr tab.2, tab.1.less (by omega)⟩
    · have f2' : fT_X3_take N (z + 7) 59 K (mv z M (a + 1)) = some (.inr (K, wI (mv z M (a + 1)) (z + 7) 5 (nI f))) := f2
      have f3' : fM_takeSign N 59 (pF S 7 (nI (a + 1))) = some (pF (pF S 7 (nI (a + 1))) 8 (nI f)) := f3
      have d := h1.dds f1
      rw [f2', tb_r, f3', bs, if_neg d.1.n1]
      exact Or.inr (h1.fb f1 rfl rfl (d.le (by omega)))
  · right
    have f2' : fT_X3_takeNumber N (z + 7) 0 999999999 K M = some (.inr (K, wI M (z + 7) 5 (nI f))) := f2
    have f3' : fM_takeNumber N 0 999999999 S = some (0, pF (pF S 8 (nI f)) 7 (nI (a + 1))) := f3
    have d := (hP.dds f1).p7 (nI (a + 1))
    refine hP.fb f1 (by rw [f2', tb_r]) (S' := pF (pF S 8 (nI f)) 7 (nI (a + 1))) ?_ (d.le (by omega))
    rw [f3', bs]
    exact d244 d N _ _ _ _ _
end ITEM
