/-! ===== both answer alike, and agree afterwards ===== -/
def ag (S : am_S) (j1 j2 : Nat) (as : List Int32) : Prop := ∃ (r : Int32) (S1 S2 : am_S), am_cal am_mt 60 j1 (.ref 0 :: as.map Value.int) (ws S) = some (some (.int r), ws S1) ∧ am_cal am_mt 60 j2 (.ref 88 :: as.map Value.int) (ws S1) = some (some (.int r), ws S2) ∧ R S2
theorem ag_go {n j1 j2 : Nat} (h : ∀ (S : am_S) (as : List Int32), as.length = n → R S → ag S j1 j2 as) : am_ag Inv j1 j2 n := by
  unfold am_ag
  intro g as hl _ hI
  obtain ⟨S, hg, hR⟩ := hI
  rw [hg]
  obtain ⟨r, S1, S2, e1, e2, e3⟩ := h S as hl hR
  exact ⟨r, ws S1, ws S2, e1, e2, S2, rfl, e3⟩
theorem li_0 : ∀ as : List Int32, as.length = 0 → as = []
  | [], _ => rfl
theorem li_1 : ∀ as : List Int32, as.length = 1 → ∃ a, as = [a]
  | [a], _ => ⟨a, rfl⟩
theorem li_2 : ∀ as : List Int32, as.length = 2 → ∃ a b, as = [a, b]
  | [a, b], _ => ⟨a, b, rfl⟩
theorem li_3 : ∀ as : List Int32, as.length = 3 → ∃ a b c, as = [a, b, c]
  | [a, b, c], _ => ⟨a, b, c, rfl⟩
theorem li_4 : ∀ as : List Int32, as.length = 4 → ∃ a b c d, as = [a, b, c, d]
  | [a, b, c, d], _ => ⟨a, b, c, d, rfl⟩
theorem li_5 : ∀ as : List Int32, as.length = 5 → ∃ a b c d e, as = [a, b, c, d, e]
  | [a, b, c, d, e], _ => ⟨a, b, c, d, e, rfl⟩
/-- two calls that answer alike whatever the depth -/
def ag2 (S : am_S) (j1 j2 : Nat) (as : List Value) : Prop := ∃ (r : Int32) (S1 S2 : am_S), (∀ d, am_cal am_mt (d + 20) j1 (.ref 0 :: as) (ws S) = some (some (.int r), ws S1)) ∧ (∀ d, am_cal am_mt (d + 20) j2 (.ref 88 :: as) (ws S1) = some (some (.int r), ws S2)) ∧ R S2
theorem ag_of {S : am_S} {j1 j2 : Nat} {as : List Int32} (h : ag2 S j1 j2 (as.map Value.int)) : ag S j1 j2 as := by
  obtain ⟨r, S1, S2, e1, e2, e3⟩ := h
  exact ⟨r, S1, S2, e1 40, e2 40, e3⟩
theorem ag_0 {j1 j2 : Nat} (h : ∀ S, R S → ag2 S j1 j2 []) : am_ag Inv j1 j2 0 :=
  ag_go (fun S as hl hR => by rw [li_0 as hl]; exact ag_of (h S hR))
theorem ag_1 {j1 j2 : Nat} (h : ∀ S x1, R S → ag2 S j1 j2 [.int x1]) : am_ag Inv j1 j2 1 :=
  ag_go (fun S as hl hR => by obtain ⟨a, e⟩ := li_1 as hl; rw [e]; exact ag_of (h S a hR))
theorem ag_2 {j1 j2 : Nat} (h : ∀ S x1 x2, R S → ag2 S j1 j2 [.int x1, .int x2]) : am_ag Inv j1 j2 2 :=
  ag_go (fun S as hl hR => by obtain ⟨a, b, e⟩ := li_2 as hl; rw [e]; exact ag_of (h S a b hR))
theorem ag_3 {j1 j2 : Nat} (h : ∀ S x1 x2 x3, R S → ag2 S j1 j2 [.int x1, .int x2, .int x3]) : am_ag Inv j1 j2 3 :=
  ag_go (fun S as hl hR => by obtain ⟨a, b, c, e⟩ := li_3 as hl; rw [e]; exact ag_of (h S a b c hR))
theorem ag_4 {j1 j2 : Nat} (h : ∀ S x1 x2 x3 x4, R S → ag2 S j1 j2 [.int x1, .int x2, .int x3, .int x4]) : am_ag Inv j1 j2 4 :=
  ag_go (fun S as hl hR => by obtain ⟨a, b, c, d, e⟩ := li_4 as hl; rw [e]; exact ag_of (h S a b c d hR))
theorem ag_5 {j1 j2 : Nat} (h : ∀ S x1 x2 x3 x4 x5, R S → ag2 S j1 j2 [.int x1, .int x2, .int x3, .int x4, .int x5]) : am_ag Inv j1 j2 5 :=
  ag_go (fun S as hl hR => by obtain ⟨a, b, c, d, f, e⟩ := li_5 as hl; rw [e]; exact ag_of (h S a b c d f hR))
theorem ag_pure {S : am_S} (hR : R S) {j1 j2 : Nat} {as : List Value} {r : Int32} (h1 : ∀ d, am_cal am_mt (d + 20) j1 (.ref 0 :: as) (ws S) = some (some (.int r), ws S)) (h2 : ∀ d, am_cal am_mt (d + 20) j2 (.ref 88 :: as) (ws S) = some (some (.int r), ws S)) : ag2 S j1 j2 as := ⟨r, S, S, h1, h2, hR⟩
/-! sets asked for -/
def setB (n : Nat) (x : Int32) : Bool := decide ((x &&& (nI (2 ^ n - 1) ^^^ (-1 : Int32))) = 0)
theorem setB_of {n : Nat} (hn : n ≤ 7) (x : Int32) : setB n x = false ∨ ∃ s, s < 2 ^ n ∧ x = nI s ∧ setB n x = true := by
  cases h : setB n x with
  | false => exact Or.inl rfl
  | true =>
    obtain ⟨k, hk, rfl⟩ := wc_of32 x
    refine Or.inr ⟨k, ?_, rfl, rfl⟩
    have h2 : (nI k &&& (nI (2 ^ n - 1) ^^^ (-1 : Int32))) = 0 := of_decide_eq_true h
    rw [wc_anI] at h2
    have h3 : (wc_an k (2 ^ n - 1)) < 2 ^ 32 := wc_an_lt hk
    have h4 : wc_an k (2 ^ n - 1) = 0 := by
      have := congrArg (fun z => z.toBitVec.toNat) h2
      rw [pk_tn h3] at this
      exact this
    apply lt_of_bits
    intro i hi
    have := congrArg (fun z => z.testBit i) h4
    simp only [wc_tan hk, Nat.testBit_two_pow_sub_one, Nat.zero_testBit] at this
    rw [decide_eq_false (by omega)] at this
    simpa using this
theorem c10_isSetF (d : Nat) {S : am_S} {v : Int32} (h : inR v (nI 4) = false) (x : Int32) : am_cal am_mt (d + 2) jX10_isSetOf [.ref 0, .int v, .int x] (ws S) = some (some (.int (bI false)), ws S) := by
  rw [eX10_isSetOf_0, kO0, if_T, c_below, cI_some, wc_bind, show (4 : Int32) = nI 4 from rfl, h, if_pos bI_F]
  ((try dsimp only); try rfl)
theorem c10_isSetOf (d : Nat) {S : am_S} {v n : Nat} {ρ : Nat → Nat} (hv : v < 4) (h : VC S (60 + 2 * v) n ρ) (x : Int32) : am_cal am_mt (d + 2) jX10_isSetOf [.ref 0, .int (nI v), .int x] (ws S) = some (some (.int (bI (setB n x))), ws S) := by
  rw [eX10_isSetOf_0, kO0, if_T, c_below, cI_some, wc_bind, show (4 : Int32) = nI 4 from rfl, inR_T hv (by decide), if_neg bI_T, kR0_1, wc_bind, kQv S hv, wc_bind, c8_all _ h, cI_some, wc_bind, bI_if]
  ((try dsimp only); try rfl)
theorem m_isSetF (d : Nat) {S : am_S} {v : Int32} (h : inR v (nI 4) = false) (x : Int32) : am_cal am_mt (d + 3) jX11_isSet [.ref 88, .int v, .int x] (ws S) = some (some (.int (bI false)), ws S) := by
  rw [eX11_isSet_0, kO88, if_T, m_isView, cI_some, wc_bind, h, if_pos bI_F]
  ((try dsimp only); try rfl)
theorem m_isSet (d : Nat) {S : am_S} {v n : Nat} {ρ : Nat → Nat} (hv : v < 4) (h : VM S v n ρ) (x : Int32) : am_cal am_mt (d + 3) jX11_isSet [.ref 88, .int (nI v), .int x] (ws S) = some (some (.int (bI (setB n x))), ws S) := by
  rw [eX11_isSet_0, kO88, if_T, m_isView, cI_some, wc_bind, inR_T hv (by decide), if_neg bI_T, m_all _ h, cI_some, wc_bind, bI_if]
  ((try dsimp only); try rfl)
theorem pu_rank : am_ag Inv jX10_rank jX11_rank 2 := ag_2 (fun S x1 x2 hR => by
  rcases inR_of (x := x1) (n := 4) (by decide) with h1 | ⟨v, hv, rfl⟩
  · refine ag_pure hR (r := -2) (fun d => ?_) (fun d => ?_)
    · rw [eX10_rank_0, kO0, if_T, c10_isSetF _ h1, cI_some, wc_bind, if_pos bI_F]
    · rw [eX11_rank_0, kO88, if_T, m_isSetF _ h1, cI_some, wc_bind, if_pos bI_F]
  · obtain ⟨n, ρ, hm, hC, hM⟩ := hR.2.1 v hv
    rcases setB_of hC.n7 x2 with h2 | ⟨s, hs, rfl, h2⟩
    · refine ag_pure hR (r := -2) (fun d => ?_) (fun d => ?_)
      · rw [eX10_rank_0, kO0, if_T, c10_isSetOf _ hv hC, cI_some, wc_bind, h2, if_pos bI_F]
      · rw [eX11_rank_0, kO88, if_T, m_isSet _ hv hM, cI_some, wc_bind, h2, if_pos bI_F]
    · refine ag_pure hR (r := nI (ρ s)) (fun d => ?_) (fun d => ?_)
      · rw [eX10_rank_0, kO0, if_T, c10_isSetOf _ hv hC, cI_some, wc_bind, h2, if_neg bI_T, kR0_1, wc_bind, kQv S hv, wc_bind, c8_rankOf _ hC hs, cI_some, wc_bind]
      · rw [eX11_rank_0, kO88, if_T, m_isSet _ hv hM, cI_some, wc_bind, h2, if_neg bI_T, m_r _ hM hs, cI_some, wc_bind])
theorem pu_span : am_ag Inv jX10_span jX11_span 2 := ag_2 (fun S x1 x2 hR => by
  rcases inR_of (x := x1) (n := 4) (by decide) with h1 | ⟨v, hv, rfl⟩
  · refine ag_pure hR (r := -2) (fun d => ?_) (fun d => ?_)
    · rw [eX10_span_0, kO0, if_T, c10_isSetF _ h1, cI_some, wc_bind, if_pos bI_F]
    · rw [eX11_span_0, kO88, if_T, m_isSetF _ h1, cI_some, wc_bind, if_pos bI_F]
  · obtain ⟨n, ρ, hm, hC, hM⟩ := hR.2.1 v hv
    rcases setB_of hC.n7 x2 with h2 | ⟨s, hs, rfl, h2⟩
    · refine ag_pure hR (r := -2) (fun d => ?_) (fun d => ?_)
      · rw [eX10_span_0, kO0, if_T, c10_isSetOf _ hv hC, cI_some, wc_bind, h2, if_pos bI_F]
      · rw [eX11_span_0, kO88, if_T, m_isSet _ hv hM, cI_some, wc_bind, h2, if_pos bI_F]
    · refine ag_pure hR (r := nI (spn n ρ s)) (fun d => ?_) (fun d => ?_)
      · rw [eX10_span_0, kO0, if_T, c10_isSetOf _ hv hC, cI_some, wc_bind, h2, if_neg bI_T, kR0_1, wc_bind, kQv S hv, wc_bind, c8_spanOf _ hC hs, cI_some, wc_bind]
      · rw [eX11_span_0, kO88, if_T, m_isSet _ hv hM, cI_some, wc_bind, h2, if_neg bI_T, m_spanOf _ hM hs, cI_some, wc_bind])
