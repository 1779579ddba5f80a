/-! ===== the rank of columns ===== -/
theorem least_of {Q : Nat → Prop} : ∀ n, (∃ k, k < n ∧ Q k) → ∃ p, p < n ∧ Q p ∧ ∀ k, k < p → ¬ Q k := by
  intro n
  induction n with
  | zero => intro ⟨k, hk, _⟩; omega
  | succ n ih =>
    intro ⟨k, hk, hq⟩
    by_cases h : ∃ k, k < n ∧ Q k
    · obtain ⟨p, h1, h2⟩ := ih h
      exact ⟨p, by omega, h2⟩
    · have : k = n := by
        apply Classical.byContradiction
        intro c
        exact h ⟨k, by omega, hq⟩
      subst this
      exact ⟨k, by omega, hq, fun j hj hqj => h ⟨j, hj, hqj⟩⟩
/-- it stops nowhere, or somewhere first -/
theorem stop_or (f : Nat) (P : Nat → Bool) (e : Nat → vec) (v : vec) : (∀ k, k < 7 → P k = false → red f P e k v k = 0) ∨ ∃ p, p < 7 ∧ P p = false ∧ 0 < red f P e p v p ∧ ∀ k, k < p → P k = false → red f P e k v k = 0 := by
  by_cases h : ∃ k, k < 7 ∧ (P k = false ∧ 0 < red f P e k v k)
  · obtain ⟨p, h1, ⟨h2, h3⟩, h4⟩ := least_of 7 h
    exact Or.inr ⟨p, h1, h2, h3, fun k hk hp => Classical.byContradiction (fun c => h4 k hk ⟨hp, by omega⟩)⟩
  · exact Or.inl (fun k hk hp => Classical.byContradiction (fun c => h ⟨k, hk, hp, by omega⟩))
theorem cn_ext {P Q : Nat → Bool} {n : Nat} (h : ∀ i, i < n → P i = Q i) : wc_cn n P = wc_cn n Q := Nat.le_antisymm (cn_imp (fun i hi hp => by rw [← h i hi]; exact hp)) (cn_imp (fun i hi hp => by rw [h i hi]; exact hp))
theorem cn_up {P : Nat → Bool} {p : Nat} (hp : P p = false) : ∀ n, p < n → wc_cn n (updB P p true) = wc_cn n P + 1 := by
  intro n
  induction n with
  | zero => intro h; omega
  | succ n ih =>
    intro h
    rw [wc_cn_s, wc_cn_s]
    by_cases hpn : p = n
    · subst hpn
      have e1 : wc_cn p (updB P p true) = wc_cn p P := cn_ext (fun i hi => by unfold updB; rw [if_neg (by omega)])
      have e2 : updB P p true p = true := by unfold updB; rw [if_pos rfl]
      rw [e1, e2, hp, if_pos rfl, if_neg Bool.false_ne_true]
    · have e2 : updB P p true n = P n := by unfold updB; rw [if_neg (by omega)]
      rw [ih (by omega), e2]
      cases P n with
      | true => rw [if_pos rfl, if_pos rfl]
      | false => rw [if_neg Bool.false_ne_true, if_neg Bool.false_ne_true]
theorem isE_step {f s g : Nat} {col : Nat → vec} {P : Nat → Bool} {e : Nat → vec} (hf : f < 4) (hc : vdc f col) (h : isE f col s P e) (hg : g < 7) : ((∀ i, i < 7 → red f P e 7 (col g) i = 0) ∧ isE f col (s ||| 2 ^ g) P e) ∨ ∃ P' e', isE f col (s ||| 2 ^ g) P' e' ∧ wc_cn 7 P' = wc_cn 7 P + 1 := by
  rcases stop_or f P e (col g) with h1 | ⟨p, h1, h2, h3, h4⟩
  · have hz := red_none h.1 hf (hc g hg) h1
    exact Or.inl ⟨hz, isE_same h hg hz⟩
  · exact Or.inr ⟨_, _, isE_new hf hc h hg h1 h2 h3 h4, cn_up h2 7 h1⟩
theorem isE_ex {f : Nat} {col : Nat → vec} (hf : f < 4) (hc : vdc f col) : ∀ s, s < 2 ^ 7 → ∃ P e, isE f col s P e := by
  refine set_ind (P := fun s => ∃ P e, isE f col s P e) ⟨_, fun _ _ => 0, isE_0 f col _⟩ ?_
  intro s g _ hg _ ⟨P, e, h⟩
  rcases isE_step hf hc h hg with ⟨_, h1⟩ | ⟨P', e', h1, _⟩
  · exact ⟨P, e, h1⟩
  · exact ⟨P', e', h1⟩
noncomputable def rkf (f : Nat) (col : Nat → vec) (s : Nat) : Nat := @dite Nat (∃ P e, isE f col s P e) (Classical.propDecidable _) (fun h => wc_cn 7 h.choose) (fun _ => 0)
theorem rkf_eq {f s : Nat} {col : Nat → vec} {P : Nat → Bool} {e : Nat → vec} (hf : f < 4) (hc : vdc f col) (h : isE f col s P e) : rkf f col s = wc_cn 7 P := by
  unfold rkf
  have hx : ∃ P e, isE f col s P e := ⟨P, e, h⟩
  rw [dif_pos hx]
  obtain ⟨e', h'⟩ := hx.choose_spec
  exact isE_uniq hf hc h' h
theorem rkf_le {f s : Nat} {col : Nat → vec} : rkf f col s ≤ 7 := by
  unfold rkf
  split
  · exact wc_cn_le _ _
  · omega
theorem mat_rkf {f n : Nat} {col : Nat → vec} (hf : f < 4) (hc : vdc f col) (hn : n ≤ 7) : mat n (rkf f col) := by
  have h7 : ∀ s, s < 2 ^ n → s < 2 ^ 7 := fun s hs => Nat.lt_of_lt_of_le hs (p2_mono hn)
  refine ⟨?_, ?_, ?_⟩
  · rw [rkf_eq hf hc (isE_0 f col (fun _ _ => 0))]
    rfl
  · intro s g hs hg
    obtain ⟨P, e, h⟩ := isE_ex hf hc s (h7 s hs)
    rw [rkf_eq hf hc h]
    rcases isE_step hf hc h (show g < 7 by omega) with ⟨_, h1⟩ | ⟨P', e', h1, h2⟩
    · rw [rkf_eq hf hc h1]; omega
    · rw [rkf_eq hf hc h1]; omega
  · intro s g g' hs hg hg' e1 e2
    obtain ⟨P, e, h⟩ := isE_ex hf hc s (h7 s hs)
    rw [rkf_eq hf hc h] at e1 e2 ⊢
    rcases isE_step hf hc h (show g < 7 by omega) with ⟨z1, h1⟩ | ⟨P', e', h1, h2⟩
    · rcases isE_step hf hc h (show g' < 7 by omega) with ⟨z2, h3⟩ | ⟨P', e', h3, h4⟩
      · exact rkf_eq hf hc (isE_same h1 (show g' < 7 by omega) z2)
      · rw [rkf_eq hf hc h3] at e2; omega
    · rw [rkf_eq hf hc h1] at e1; omega
/-! the class's matrix, at cell m -/
def mq (m : Nat) : Prop := kdl[m]? = some (0, 5, 0, [(2, 0), (1, m + 3), (1, m + 4), (1, m + 5), (1, m + 6), (1, m + 7), (0, 0)]) ∧ kdl[m + 3]? = some (1, 0, 49, []) ∧ kdl[m + 4]? = some (1, 0, 49, []) ∧ kdl[m + 5]? = some (1, 1, 7, []) ∧ kdl[m + 6]? = some (1, 0, 7, []) ∧ kdl[m + 7]? = some (1, 0, 7, [])
theorem mq_17 : mq 17 := ⟨rfl, rfl, rfl, rfl, rfl, rfl⟩
theorem mq_26 : mq 26 := ⟨rfl, rfl, rfl, rfl, rfl, rfl⟩
theorem mq.O {m : Nat} (h : mq m) (S : am_S) : am_isO (ws S) m 5 = true := ws_isO h.1
theorem mq.f0 {m : Nat} (h : mq m) (S : am_S) : am_fR (ws S) m 5 0 = some (S m 0).toNatClampNeg := ws_fM h.1 rfl
theorem mq.f1 {m : Nat} (h : mq m) (S : am_S) : am_fR (ws S) m 5 1 = some (m + 3) := ws_fR h.1 rfl
theorem mq.f2 {m : Nat} (h : mq m) (S : am_S) : am_fR (ws S) m 5 2 = some (m + 4) := ws_fR h.1 rfl
theorem mq.f3 {m : Nat} (h : mq m) (S : am_S) : am_fR (ws S) m 5 3 = some (m + 5) := ws_fR h.1 rfl
theorem mq.f4 {m : Nat} (h : mq m) (S : am_S) : am_fR (ws S) m 5 4 = some (m + 6) := ws_fR h.1 rfl
theorem mq.f5 {m : Nat} (h : mq m) (S : am_S) : am_fR (ws S) m 5 5 = some (m + 7) := ws_fR h.1 rfl
theorem mq.f6 {m : Nat} (h : mq m) (S : am_S) : am_fI (ws S) m 5 6 = some (S m 6) := ws_fI h.1 rfl
theorem mq.s0 {m : Nat} (h : mq m) (S : am_S) {q : Nat} (hq : q < 2 ^ 31) : am_sF (ws S) m 5 0 (.ref q) = some (ws (up S m 0 (nI q))) := ws_sFM h.1 rfl hq
theorem mq.s6 {m : Nat} (h : mq m) (S : am_S) (x : Int32) : am_sF (ws S) m 5 6 (.int x) = some (ws (up S m 6 x)) := ws_sFI h.1 rfl
theorem mq.a3 {m : Nat} (h : mq m) (S : am_S) {i : Nat} (hi : i < 49) : am_aI (ws S) (m + 3) 0 (nI i) = some (S (m + 3) i) := ws_aIn h.2.1 hi (by decide)
theorem mq.w3 {m : Nat} (h : mq m) (S : am_S) {i : Nat} (hi : i < 49) (x : Int32) : am_sI (ws S) (m + 3) 0 (nI i) x = some (ws (up S (m + 3) i x)) := ws_sIn h.2.1 hi (by decide)
theorem mq.l3 {m : Nat} (h : mq m) (S : am_S) : am_ln (ws S) (m + 3) = some (nI 49) := ws_ln h.2.1 (by decide)
theorem mq.a4 {m : Nat} (h : mq m) (S : am_S) {i : Nat} (hi : i < 49) : am_aI (ws S) (m + 4) 0 (nI i) = some (S (m + 4) i) := ws_aIn h.2.2.1 hi (by decide)
theorem mq.a5 {m : Nat} (h : mq m) (S : am_S) {i : Nat} (hi : i < 7) : am_aI (ws S) (m + 5) 1 (nI i) = some (S (m + 5) i) := ws_aIn h.2.2.2.1 hi (by decide)
theorem mq.w5 {m : Nat} (h : mq m) (S : am_S) {i : Nat} (hi : i < 7) (x : Int32) : am_sI (ws S) (m + 5) 1 (nI i) x = some (ws (up S (m + 5) i x)) := ws_sIn h.2.2.2.1 hi (by decide)
theorem mq.a6 {m : Nat} (h : mq m) (S : am_S) {i : Nat} (hi : i < 7) : am_aI (ws S) (m + 6) 0 (nI i) = some (S (m + 6) i) := ws_aIn h.2.2.2.2.1 hi (by decide)
theorem mq.w6 {m : Nat} (h : mq m) (S : am_S) {i : Nat} (hi : i < 7) (x : Int32) : am_sI (ws S) (m + 6) 0 (nI i) x = some (ws (up S (m + 6) i x)) := ws_sIn h.2.2.2.2.1 hi (by decide)
theorem mq.a7 {m : Nat} (h : mq m) (S : am_S) {i : Nat} (hi : i < 7) : am_aI (ws S) (m + 7) 0 (nI i) = some (S (m + 7) i) := ws_aIn h.2.2.2.2.2 hi (by decide)
theorem mq.w7 {m : Nat} (h : mq m) (S : am_S) {i : Nat} (hi : i < 7) (x : Int32) : am_sI (ws S) (m + 7) 0 (nI i) x = some (ws (up S (m + 7) i x)) := ws_sIn h.2.2.2.2.2 hi (by decide)
theorem in7T {g : Nat} (hg : g < 7) : inR (nI g) (7 : Int32) = true := inR_T (n := 7) hg (by decide)
theorem m77 (g i : Nat) : nI g * (7 : Int32) + nI i = nI (7 * g + i) := by rw [show (7 : Int32) = nI 7 from rfl, pk_mul, nI_add, Nat.mul_comm]
theorem m7_ (g : Nat) : nI g * (7 : Int32) = nI (7 * g) := by rw [show (7 : Int32) = nI 7 from rfl, pk_mul, Nat.mul_comm]
/-- numbers of columns -/
def MX (S : am_S) (m f : Nat) (col : Nat → vec) : Prop := mq m ∧ f < 4 ∧ (∃ q, q < 2 ^ 31 ∧ S m 0 = nI q ∧ FC S q f ∧ (q + 1 < m ∨ m + 7 < q)) ∧ vdc f col ∧ ∀ g, g < 7 → ∀ i, i < 7 → S (m + 3) (7 * g + i) = nI (col g i)
/-- an echelon of it -/
def EX (S : am_S) (m : Nat) (P : Nat → Bool) (e : Nat → vec) : Prop := (∀ p, p < 7 → S (m + 5) p = bI (P p)) ∧ (∀ p, p < 7 → P p = true → ∀ i, i < 7 → S (m + 4) (7 * p + i) = nI (e p i)) ∧ S m 6 = nI (wc_cn 7 P)
theorem MX.fl {S : am_S} {m f : Nat} {col : Nat → vec} (h : MX S m f col) : ∃ q, am_fR (ws S) m 5 0 = some q ∧ FC S q f := by
  obtain ⟨q, h1, h2, h3, _⟩ := h.2.2.1
  exact ⟨q, by rw [h.1.f0, h2, nI_clamp h1], h3⟩
/-- what entering and leaving leave -/
def Xm (m : Nat) (S S' : am_S) : Prop := Cr m (m + 7) S S' ∧ S' m 0 = S m 0 ∧ S' (m + 3) = S (m + 3)
theorem Xm.rf {m : Nat} {S : am_S} : Xm m S S := ⟨Cr.rf, rfl, rfl⟩
theorem Xm.tr {m : Nat} {S S' S'' : am_S} (h : Xm m S S') (h' : Xm m S' S'') : Xm m S S'' := ⟨h.1.tr h'.1, h'.2.1.trans h.2.1, h'.2.2.trans h.2.2⟩
theorem Xm_up {m c i : Nat} {S S' : am_S} {x : Int32} (h : Xm m S S') (hc : m + 4 ≤ c ∧ c ≤ m + 7 ∨ c = m ∧ i = 6) : Xm m S (up S' c i x) := by
  refine ⟨Cr_up h.1 (by omega) (by omega), ?_, by rw [up_ne (m + 3) (by omega)]; exact h.2.2⟩
  rcases hc with hc | ⟨hc, hi⟩
  · rw [up_ne m (by omega)]; exact h.2.1
  · subst hc; rw [up_upd]; unfold upd; rw [if_neg (by omega)]; exact h.2.1
theorem Xm_upA {m c : Nat} {S S' : am_S} {f : Nat → Int32} (h : Xm m S S') (hc : m + 4 ≤ c ∧ c ≤ m + 7) : Xm m S (upA S' c f) :=
  ⟨Cr_upA h.1 (by omega) (by omega), by rw [upA_ne m (by omega)]; exact h.2.1, by rw [upA_ne (m + 3) (by omega)]; exact h.2.2⟩
theorem MX_Xm {S S' : am_S} {m f : Nat} {col : Nat → vec} (h : MX S m f col) (hx : Xm m S S') : MX S' m f col := by
  obtain ⟨h1, h2, ⟨q, h3, h4, h5, h6⟩, h7, h8⟩ := h
  exact ⟨h1, h2, ⟨q, h3, by rw [hx.2.1]; exact h4, FC_Cr h5 hx.1 (by omega), h6⟩, h7, fun g hg i hi => by rw [hx.2.2]; exact h8 g hg i hi⟩
theorem c5_empty (d : Nat) (S : am_S) {m : Nat} (hm : mq m) : ∃ S', am_cal am_mt (d + 1) jX5_emptyEchelon [.ref m] (ws S) = some (none, ws S') ∧ Xm m S S' ∧ EX S' m (fun _ => false) (fun _ _ => 0) := by
  have key : wp (am_cal am_mt (d + 1) jX5_emptyEchelon [.ref m] (ws S)) (fun o S' => o = none ∧ Xm m S S' ∧ EX S' m (fun _ => false) (fun _ _ => 0)) := by
    rw [eX5_emptyEchelon_0, hm.O, if_T, hm.s6, wc_bind, show (0 : Int32) = nI 0 from rfl]
    refine loop_wp (fun k S' => am_run false (am_cal am_mt d) (am_lk tbX5_emptyEchelon) 7 [some (.ref m), some (.int (nI k))] [] (ws S')) (fun k S' => Xm m S S' ∧ S' m 6 = nI 0 ∧ ∀ p, p < k → S' (m + 5) p = bI false) _ 7 ?_ ?_ 0 _ (Nat.zero_le _) ⟨Xm_up Xm.rf (by omega), up_self _ _ _ _, fun p hp => absurd hp (Nat.not_lt_zero p)⟩
    · intro k S' hk hI K
      show wp (am_run _ _ _ _ _ _ _) _
      rw [eX5_emptyEchelon_7, if_neg (show ¬ (7 : Int32) ≤ nI k from nI_ge (b := 7) hk (by decide)), hm.f3, wc_bind, hm.w5 S' hk, wc_bind, nar0, nI_1]
      refine K _ ⟨Xm_up hI.1 (by omega), by rw [up_ne m (by omega)]; exact hI.2.1, fun p hp => ?_⟩
      rw [up_upd]; unfold upd
      by_cases hpk : p = k
      · rw [if_pos hpk, bI_F]
      · rw [if_neg hpk]; exact hI.2.2 p (by omega)
    · intro S' hI
      show wp (am_run _ _ _ _ _ _ _) _
      rw [eX5_emptyEchelon_7, if_pos (by decide)]
      exact wp_ret ⟨rfl, hI.1, fun p hp => hI.2.2 p hp, fun p hp h => (by cases h), by rw [hI.2.1]; rfl⟩
  obtain ⟨o, S', h1, rfl, h2⟩ := key
  exact ⟨S', h1, h2⟩
