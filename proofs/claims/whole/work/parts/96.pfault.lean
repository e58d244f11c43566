/-! a fault while statements are read -/
/-- the units' heads stand -/
def T5 (S S' : Ms) : Prop := ∀ k, 20 ≤ k → k ≤ 24 → mA S' k = mA S k
def DDs (b bn n : Nat) (S : Ms) (f : Nat) (S' : Ms) : Prop := DS S' f ∧ AgO b S S' ∧ mF S' 12 = nI bn ∧ mF S' 42 = nI (10000 * bn) ∧ ∃ r, mF S' 38 = nI r ∧ r ≤ n ∧ T5 S S'
def FB {α : Type} (z b bn : Nat) (K0 : Ka) (M : Cm) (S : Ms) (n : Nat) (c : Option (α ⊕ (Ka × Cm))) (o : Option Ms) : Prop := ∃ f K' M' S', FLT f ∧ c = some (.inr (K', M')) ∧ KB K0 K' ∧ AgA z K0 M M' ∧ cI M' (z + 7) 5 = nI f ∧ o = some S' ∧ DDs b bn n S f S'
section PFAULT
variable {z b bn sm size t nd nu nm iu : Nat} {ex : Nat → Nat → Prop} {K0 K : Ka} {M M' : Cm} {S S' : Ms} {mk : List Mk} {j : Jt} {rc cc a v rv dp n : Nat} {α β : Type}
theorem FB.go {c : Option (α ⊕ (Ka × Cm))} {k : α → Option (β ⊕ (Ka × Cm))} {o : Option Ms} {r : Ms → Option Ms} {n' : Nat} (h : FB z b bn K0 M S n c o) (hr : ∀ f S', DDs b bn n S f S' → ∃ S'', r S' = some S'' ∧ DDs b bn n' S f S'') : FB z b bn K0 M S n' (tb c k) (o.bind r) := by
  obtain ⟨f, K', M', S', h1, h2, h3, h4, h5, h6, h7⟩ := h
  obtain ⟨S'', r1, r2⟩ := hr f S' h7
  exact ⟨f, K', M', S'', h1, by rw [h2]; rfl, h3, h4, h5, by rw [h6]; exact r1, r2⟩
theorem FB.gr {c : Option (α ⊕ (Ka × Cm))} {o : Option Ms} {r : Ms → Option Ms} {n' : Nat} (h : FB z b bn K0 M S n c o) (hr : ∀ f S', DDs b bn n S f S' → ∃ S'', r S' = some S'' ∧ DDs b bn n' S f S'') : FB z b bn K0 M S n' c (o.bind r) := by
  obtain ⟨f, K', M', S', h1, h2, h3, h4, h5, h6, h7⟩ := h
  obtain ⟨S'', r1, r2⟩ := hr f S' h7
  exact ⟨f, K', M', S'', h1, h2, h3, h4, h5, by rw [h6]; exact r1, r2⟩
theorem FB.pre {c : Option (α ⊕ (Ka × Cm))} {o : Option Ms} (h : FB z b bn K0 M' S' n c o) (hM : AgA z K0 M M') (hS : AgO b S S') (hT : T5 S S') : FB z b bn K0 M S n c o := by
  obtain ⟨f, K', M1, S1, h1, h2, h3, h4, h5, h6, h7, h8, h9, h10, r, h11, h12, h13⟩ := h
  exact ⟨f, K', M1, S1, h1, h2, h3, hM.tr h4, h5, h6, h7, hS.tr h8, h9, h10, r, h11, h12, fun k k1 k2 => (h13 k k1 k2).trans (hT k k1 k2)⟩
theorem FB.fr {c : Option (α ⊕ (Ka × Cm))} {o : Option Ms} (h : FB z b bn K0 M' S' n c o) (hf : FR z b sm K0 M M' S S') : FB z b bn K0 M S n c o := h.pre hf.2.2.2.2.2.2.2.2.1 hf.2.2.2.2.2.2.2.2.2 (fun k k1 k2 => hf.2.2.2.2.2.2.1 k (by omega) (by omega) (by omega))
theorem FB.le {c : Option (α ⊕ (Ka × Cm))} {o : Option Ms} {n' : Nat} (h : FB z b bn K0 M S n c o) (hn : n ≤ n') : FB z b bn K0 M S n' c o := by
  obtain ⟨f, K', M1, S1, h1, h2, h3, h4, h5, h6, h7, h8, h9, h10, r, h11, h12, h13⟩ := h
  exact ⟨f, K', M1, S1, h1, h2, h3, h4, h5, h6, h7, h8, h9, h10, r, h11, by omega, h13⟩
theorem DDs.le {f n' : Nat} (h : DDs b bn n S f S') (hn : n ≤ n') : DDs b bn n' S f S' := by
  obtain ⟨h1, h2, h3, h4, r, h5, h6, h7⟩ := h
  exact ⟨h1, h2, h3, h4, r, h5, by omega, h7⟩
theorem DDs.fr {f : Nat} {S1 : Ms} (h : DDs b bn n S' f S1) (hf : FR z b sm K0 M M' S S') : DDs b bn n S f S1 := by
  obtain ⟨h1, h2, h3, h4, r, h5, h6, h7⟩ := h
  exact ⟨h1, hf.2.2.2.2.2.2.2.2.2.tr h2, h3, h4, r, h5, h6, fun k k1 k2 => (h7 k k1 k2).trans (hf.2.2.2.2.2.2.1 k (by omega) (by omega) (by omega))⟩
theorem DDs.p7 {f : Nat} (h : DDs b bn n S f S') (w : Int32) : DDs b bn n S f (pF S' 7 w) := by
  obtain ⟨h1, h2, h3, h4, h5⟩ := h
  exact ⟨h1, h2.tr (AgO.pF o7 _), h3, h4, h5⟩
theorem DDs.p50 {f : Nat} (h : DDs b bn n S f S') (w : Int32) : DDs b bn n S f (pF S' 50 w) := by
  obtain ⟨h1, h2, h3, h4, h5⟩ := h
  exact ⟨h1, h2.tr (AgO.pF (by unfold OF; omega) _), h3, h4, h5⟩
theorem DDs.em {f : Nat} (hb : b = 0 ∨ b = 1) (hbn : bn = 1 - b) (h : DDs b bn n S f S') (hn : n < 9990) (N : Nat) (x1 x2 x3 : Int32) : ∃ r S'', r ≤ n ∧ fM_emit N x1 x2 x3 S' = some (nI r, S'') ∧ DDs b bn (n + 1) S f S'' := by
  obtain ⟨h1, h2, h3, h4, r, h5, h6, h7⟩ := h
  have nb : ∀ k, bw k = 10000 → ¬ OB b k (10000 * bn + r) := fun k hk => ob_n hb hbn hk (by decide) (by omega) (by omega)
  refine ⟨r, _, h6, em_ok h4 h5 (by omega) N x1 x2 x3, h1, ?_, by rw [emS_f (by decide)]; exact h3, by rw [emS_f (by decide)]; exact h4, r + 1, rfl, by omega, fun k k1 k2 => by rw [emS_o (by omega)]; exact h7 k k1 k2⟩
  unfold emS
  exact h2.tr ((((AgO.pA (nb 39 rfl) _).tr (AgO.pA (nb 40 rfl) _)).tr (AgO.pA (nb 41 rfl) _)).tr (AgO.pF (by unfold OF; omega) _))
theorem DDs.here {f : Nat} (hb : b = 0 ∨ b = 1) (hbn : bn = 1 - b) (h : DDs b bn n S f S') {k : Nat} (hk : k < 10000) (N : Nat) : ∃ S'', fM_here N (nI k) S' = some S'' ∧ DDs b bn n S f S'' := by
  obtain ⟨h1, h2, h3, h4, r, h5, h6, h7⟩ := h
  exact ⟨_, here_ok h4 h5 (by omega) N, h1, h2.tr (AgO.pA (ob_n hb hbn (w := 10000) rfl (by decide) (by omega) (by omega)) _), h3, h4, r, h5, h6, fun k k1 k2 => (mA_Ane _ _ _ (by omega)).trans (h7 k k1 k2)⟩
theorem PS.dds (h : PS z b bn sm size t nd nu nm iu ex K0 K M S mk j rc cc a v rv dp) {f : Nat} (hf : FLT f) : DDs b bn rc S f (pF S 8 (nI f)) := ⟨⟨hf, rfl⟩, AgO.pF o8 _, h.2.1.1.2.1, h.2.1.2.2.2.1, rc, h.2.2.2.2.2.2.1, Nat.le_refl _, fun _ _ _ => rfl⟩
theorem PS.fb (h : PS z b bn sm size t nd nu nm iu ex K0 K M S mk j rc cc a v rv dp) {f : Nat} (hf : FLT f) {c : Option (α ⊕ (Ka × Cm))} {o : Option Ms} {S' : Ms} (hc : c = some (.inr (K, wI M (z + 7) 5 (nI f)))) (ho : o = some S') (hd : DDs b bn n S f S') : FB z b bn K0 M S n c o :=
  ⟨f, K, _, S', hf, hc, h.1.2.2.2.2.2.1, ⟨fun a' _ q => ⟨by rw [cI_wI_ne _ _ _ q], rfl⟩, fun _ _ _ _ => rfl⟩, by rw [cI_w, if_pos ⟨rfl, rfl⟩], ho, hd⟩
theorem PS.fbm (h : PS z b bn sm size t nd nu nm iu ex K0 K M S mk j rc cc a v rv dp) {f jj : Nat} (hf : FLT f) {c : Option (α ⊕ (Ka × Cm))} {o : Option Ms} {S' : Ms} (hc : c = some (.inr (K, wI (mv z M jj) (z + 7) 5 (nI f)))) (ho : o = some S') (hd : DDs b bn n S f S') : FB z b bn K0 M S n c o :=
  ⟨f, K, _, S', hf, hc, h.1.2.2.2.2.2.1, (mv_A jj).tr ⟨fun a' _ q => ⟨by rw [cI_wI_ne _ _ _ q], rfl⟩, fun _ _ _ _ => rfl⟩, by rw [cI_w, if_pos ⟨rfl, rfl⟩], ho, hd⟩
theorem PS.hz (h : PS z b bn sm size t nd nu nm iu ex K0 K M S mk j rc cc a v rv dp) : z + 174 ≤ sm := by have := h.1.2.2.1; have := h.1.2.2.2.1; omega
theorem PS.k7 (h : PS z b bn sm size t nd nu nm iu ex K0 K M S mk j rc cc a v rv dp) : kd K (z + 7) = 4 := h.2.2.1.1.k 7 4 0 rfl
theorem PS.k1 (h : PS z b bn sm size t nd nu nm iu ex K0 K M S mk j rc cc a v rv dp) : kd K (z + 1) = 7 := h.2.2.1.1.k 1 7 0 rfl
theorem PS.r70 (h : PS z b bn sm size t nd nu nm iu ex K0 K M S mk j rc cc a v rv dp) : cR M (z + 7) 0 = some (z + 1) := h.2.2.1.1.r 7 0 1 (by decide)
theorem PS.r71 (h : PS z b bn sm size t nd nu nm iu ex K0 K M S mk j rc cc a v rv dp) : cR M (z + 7) 1 = some sm := h.2.2.2.1.2.2.1
theorem PS.ks (h : PS z b bn sm size t nd nu nm iu ex K0 K M S mk j rc cc a v rv dp) : kd K sm = 6 := h.2.2.2.1.2.2.2.1
theorem PS.at (h : PS z b bn sm size t nd nu nm iu ex K0 K M S mk j rc cc a v rv dp) : cI M (z + 7) 2 = nI a := h.2.2.1.2.2.2.2.2.1
theorem PS.kn (h : PS z b bn sm size t nd nu nm iu ex K0 K M S mk j rc cc a v rv dp) : cI M (z + 7) 3 = cI M (z + 3) a := h.2.2.1.2.2.2.2.2.2.1
theorem PS.f0 (h : PS z b bn sm size t nd nu nm iu ex K0 K M S mk j rc cc a v rv dp) : mF S 8 = 0 := h.2.2.1.2.2.2.2.1
theorem PS.m7 (h : PS z b bn sm size t nd nu nm iu ex K0 K M S mk j rc cc a v rv dp) : mF S 7 = nI a := h.2.2.1.2.2.2.1
theorem PS.tok (h : PS z b bn sm size t nd nu nm iu ex K0 K M S mk j rc cc a v rv dp) : cI M (z + 1) 6 = nI (t + 1) := h.2.2.1.2.1.2.2.1
theorem PS.t4 (h : PS z b bn sm size t nd nu nm iu ex K0 K M S mk j rc cc a v rv dp) : a ≤ t ∧ t ≤ 4000 := by
  have h1 := h.2.2.1.2.1.1
  have h2 := h.2.2.1.2.1.2.1
  have h3 := h.2.2.1.2.2.1
  omega
/-- one token on in the class -/
theorem PS.mvC (h : PS z b bn sm size t nd nu nm iu ex K0 K M S mk j rc cc a v rv dp) (N : Nat) (hl : a < t) : fC_X3_moveTo N K (z + 7) (cI M (z + 7) 2 + 1) M = some (mv z M (a + 1)) := by
  rw [h.at, nI_1]
  exact mv_ok h.2.2.1.1 h.2.2.1.2.1 N (by omega)
end PFAULT
