/-! ===== columns: echelons, and how many of a set are such that none is made of the others ===== -/
theorem fx1 : ∀ f, f < 4 → ∀ x, x < fsz f → fsu f x 0 = x ∧ fmu f 0 x = 0 ∧ fmu f x 0 = 0 ∧ fsu f x (fmu f 1 x) = 0 := by decide +kernel
theorem fx2 : ∀ f, f < 4 → ∀ x, x < fsz f → ∀ y, y < fsz f → 0 < y → fsu f x (fmu f (fmu f x (fin f y)) y) = 0 := by decide +kernel
theorem fx3 : ∀ f, f < 4 → ∀ x, x < fsz f → 0 < x → fmu f x (fin f x) = 1 := by decide +kernel
theorem fx4 : ∀ f, f < 4 → ∀ x, x < fsz f → ∀ a, a < fsz f → ∀ y, y < fsz f → ∀ c, c < fsz f → fmu f (fsu f x (fmu f a y)) c = fsu f (fmu f x c) (fmu f a (fmu f y c)) := by decide +kernel
theorem fx5a : ∀ f, f < 4 → ∀ a, a < fsz f → ∀ m, m < fsz f → ∀ n, n < fsz f → ∀ e, e < fsz f → fmu f (fsu f m (fmu f a n)) e = fsu f (fmu f m e) (fmu f a (fmu f n e)) := by decide +kernel
theorem fx5b : ∀ f, f < 4 → ∀ x, x < fsz f → ∀ y, y < fsz f → ∀ u, u < fsz f → ∀ w, w < fsz f → fsu f (fsu f x y) (fsu f u w) = fsu f (fsu f x u) (fsu f y w) := by decide +kernel
theorem fx5c : ∀ f, f < 4 → ∀ a, a < fsz f → ∀ y, y < fsz f → ∀ w, w < fsz f → fsu f (fmu f a y) (fmu f a w) = fmu f a (fsu f y w) := by decide +kernel
theorem fx6 : ∀ f, f < 4 → ∀ x, x < fsz f → ∀ m, m < fsz f → ∀ y, y < fsz f → fsu f (fsu f x (fmu f m y)) (fmu f (fsu f 0 m) y) = x := by decide +kernel
theorem f0 (f : Nat) : 0 < fsz f := by have := fsz_pos f; omega
theorem flt2 {f a b : Nat} (hf : f < 4) (ha : a < fsz f) (hb : b < fsz f) : fsu f a b < fsz f ∧ fmu f a b < fsz f ∧ fin f a < fsz f := ⟨(f_lt f hf a ha b hb).2.1, (f_lt f hf a ha b hb).2.2.1, (f_lt f hf a ha b hb).2.2.2⟩
abbrev vec : Type := Nat → Nat
def vd (f : Nat) (v : vec) : Prop := ∀ i, i < 7 → v i < fsz f
def sbm (f : Nat) (v : vec) (a : Nat) (w : vec) : vec := fun i => fsu f (v i) (fmu f a (w i))
theorem vd_sbm {f a : Nat} {v w : vec} (hf : f < 4) (hv : vd f v) (hw : vd f w) (ha : a < fsz f) : vd f (sbm f v a w) := fun i hi => (flt2 hf (hv i hi) (flt2 hf ha (hw i hi)).2.1).1
/-- a step: place k is cleared by row k, if there is one -/
def redS (f : Nat) (P : Nat → Bool) (e : Nat → vec) (k : Nat) (v : vec) : vec := if P k then sbm f v (fmu f (v k) (fin f (e k k))) (e k) else v
def red (f : Nat) (P : Nat → Bool) (e : Nat → vec) (k : Nat) (v : vec) : vec := wc_fd k (redS f P e) v
theorem red_0 (f : Nat) (P : Nat → Bool) (e : Nat → vec) (v : vec) : red f P e 0 v = v := rfl
theorem red_s (f : Nat) (P : Nat → Bool) (e : Nat → vec) (k : Nat) (v : vec) : red f P e (k + 1) v = redS f P e k (red f P e k v) := wc_fd_s _ _ _
def ec (f : Nat) (P : Nat → Bool) (e : Nat → vec) : Prop := ∀ p, p < 7 → P p = true → (∀ i, i < p → e p i = 0) ∧ 0 < e p p ∧ vd f (e p)
theorem ec.c {f : Nat} {P : Nat → Bool} {e : Nat → vec} (h : ec f P e) (hf : f < 4) {v : vec} (hv : vd f v) {k : Nat} (hk : k < 7) (hp : P k = true) : fmu f (v k) (fin f (e k k)) < fsz f :=
  (flt2 hf (hv k hk) (flt2 hf ((h k hk hp).2.2 k hk) (f0 f)).2.2).2.1
theorem vd_redS {f : Nat} {P : Nat → Bool} {e : Nat → vec} (h : ec f P e) (hf : f < 4) {v : vec} (hv : vd f v) {k : Nat} (hk : k < 7) : vd f (redS f P e k v) := by
  unfold redS
  cases hp : P k with
  | true => rw [if_pos rfl]; exact vd_sbm hf hv (h k hk hp).2.2 (h.c hf hv hk hp)
  | false => rw [if_neg Bool.false_ne_true]; exact hv
theorem vd_red {f : Nat} {P : Nat → Bool} {e : Nat → vec} (h : ec f P e) (hf : f < 4) {v : vec} (hv : vd f v) : ∀ k, k ≤ 7 → vd f (red f P e k v) := by
  intro k
  induction k with
  | zero => intro _; exact hv
  | succ k ih => intro hk; rw [red_s]; exact vd_redS h hf (ih (by omega)) (by omega)
theorem red_lin {f : Nat} {P : Nat → Bool} {e : Nat → vec} (h : ec f P e) (hf : f < 4) {v w : vec} {a : Nat} (hv : vd f v) (hw : vd f w) (ha : a < fsz f) : ∀ k, k ≤ 7 → ∀ i, i < 7 → red f P e k (sbm f v a w) i = sbm f (red f P e k v) a (red f P e k w) i := by
  intro k
  induction k with
  | zero => intro _ i _; rfl
  | succ k ih =>
    intro hk i hi
    have h1 := ih (by omega)
    have dv := vd_red h hf hv k (by omega)
    have dw := vd_red h hf hw k (by omega)
    rw [red_s, red_s, red_s]
    unfold redS
    cases hp : P k with
    | false => simp only [Bool.false_eq_true, if_false]; exact h1 i hi
    | true =>
      simp only [if_true]
      have ek := (h k (by omega) hp).2.2
      have ci := (flt2 hf (ek k (by omega)) (f0 f)).2.2
      unfold sbm at h1 ⊢
      rw [h1 i hi, h1 k (by omega)]
      have x1 := dv i hi
      have x2 := dw i hi
      have x3 := dv k (by omega)
      have x4 := dw k (by omega)
      have m1 := (flt2 hf x3 ci).2.1
      have m2 := (flt2 hf x4 ci).2.1
      have e1 := ek i hi
      rw [fx4 f hf _ x3 a ha _ x4 _ ci, fx5a f hf a ha _ m1 _ m2 _ e1, fx5b f hf _ x1 _ (flt2 hf ha x2).2.1 _ (flt2 hf m1 e1).2.1 _ (flt2 hf ha (flt2 hf m2 e1).2.1).2.1, fx5c f hf a ha _ x2 _ (flt2 hf m2 e1).2.1]
theorem red_ext {f : Nat} {P : Nat → Bool} {e : Nat → vec} {v w : vec} (hvw : ∀ i, i < 7 → v i = w i) : ∀ k, k ≤ 7 → ∀ i, i < 7 → red f P e k v i = red f P e k w i := by
  intro k
  induction k with
  | zero => intro _ i hi; exact hvw i hi
  | succ k ih =>
    intro hk i hi
    rw [red_s, red_s]
    unfold redS sbm
    rw [ih (by omega) k (by omega)]
    cases P k with
    | true => simp only [if_true]; rw [ih (by omega) i hi]
    | false => simp only [Bool.false_eq_true, if_false]; exact ih (by omega) i hi
/-- later steps leave earlier places -/
theorem red_lo {f : Nat} {P : Nat → Bool} {e : Nat → vec} (h : ec f P e) (hf : f < 4) {v : vec} (hv : vd f v) {i : Nat} (hi : i < 7) : ∀ k, i + 1 ≤ k → k ≤ 7 → red f P e k v i = red f P e (i + 1) v i := by
  intro k h1
  induction h1 with
  | refl => intro _; rfl
  | step h2 ih =>
    rename_i m
    intro hk
    have h2 : i + 1 ≤ m := h2
    have hk : m + 1 ≤ 7 := hk
    rw [red_s, ← ih (by omega)]
    unfold redS
    cases hp : P m with
    | false => rfl
    | true =>
      rw [if_pos rfl]
      have dv := vd_red h hf hv m (by omega)
      have ei := (h m (by omega) hp).1 i (by omega)
      unfold sbm
      rw [ei, (fx1 f hf _ (h.c hf dv (by omega) hp)).2.2.1, (fx1 f hf _ (dv i hi)).1]
theorem red_at {f : Nat} {P : Nat → Bool} {e : Nat → vec} (h : ec f P e) (hf : f < 4) {v : vec} (hv : vd f v) {i : Nat} (hi : i < 7) (hp : P i = true) : red f P e (i + 1) v i = 0 := by
  rw [red_s]
  unfold redS
  rw [hp, if_pos rfl]
  unfold sbm
  have e1 := h i hi hp
  exact fx2 f hf _ (vd_red h hf hv i (by omega) i hi) _ (e1.2.2 i hi) e1.2.1
theorem red_z {f : Nat} {P : Nat → Bool} {e : Nat → vec} (h : ec f P e) (hf : f < 4) {v : vec} (hv : vd f v) : ∀ k, k ≤ 7 → (∀ i, i < k → v i = 0) → ∀ i, i < 7 → red f P e k v i = v i := by
  intro k
  induction k with
  | zero => intro _ _ i _; rfl
  | succ k ih =>
    intro hk hz i hi
    have h1 := ih (by omega) (fun i hi => hz i (by omega))
    rw [red_s]
    unfold redS
    cases hp : P k with
    | false => rw [if_neg Bool.false_ne_true]; exact h1 i hi
    | true =>
      rw [if_pos rfl]
      unfold sbm
      have ek := (h k (by omega) hp).2.2
      rw [h1 i hi, h1 k (by omega), hz k (by omega), (fx1 f hf _ (flt2 hf (ek k (by omega)) (f0 f)).2.2).2.1, (fx1 f hf _ (ek i hi)).2.1, (fx1 f hf _ (hv i hi)).1]
theorem lead_in {f : Nat} {P : Nat → Bool} {e : Nat → vec} (h : ec f P e) (hf : f < 4) {v : vec} (hv : vd f v) {i : Nat} (hi : i < 7) (hz : ∀ j, j < i → v j = 0) (hn : 0 < v i) (hr : red f P e 7 v i = 0) : P i = true := by
  cases hp : P i with
  | true => rfl
  | false =>
    exfalso
    rw [red_lo h hf hv hi 7 (by omega) (by omega), red_s] at hr
    unfold redS at hr
    rw [hp, if_neg Bool.false_ne_true, red_z h hf hv i (by omega) hz i hi] at hr
    omega
theorem red_self {f : Nat} {P : Nat → Bool} {e : Nat → vec} (h : ec f P e) (hf : f < 4) {p : Nat} (hp7 : p < 7) (hp : P p = true) : ∀ i, i < 7 → red f P e 7 (e p) i = 0 := by
  have e1 := h p hp7 hp
  have h1 := red_z h hf e1.2.2 p (by omega) e1.1
  have h2 : ∀ k, p + 1 ≤ k → k ≤ 7 → ∀ i, i < 7 → red f P e k (e p) i = 0 := by
    intro k hk
    induction hk with
    | refl =>
      intro _ i hi
      rw [red_s]
      unfold redS
      rw [hp, if_pos rfl]
      unfold sbm
      rw [h1 i hi, h1 p hp7, fx3 f hf _ (e1.2.2 p hp7) e1.2.1]
      exact (fx1 f hf _ (e1.2.2 i hi)).2.2.2
    | step h2 ih =>
      rename_i m
      intro hk i hi
      have h2 : p + 1 ≤ m := h2
      have hk : m + 1 ≤ 7 := hk
      have z := ih (by omega)
      rw [red_s]
      unfold redS
      cases hq : P m with
      | false => rw [if_neg Bool.false_ne_true]; exact z i hi
      | true =>
        rw [if_pos rfl]
        unfold sbm
        have em := (h m (by omega) hq).2.2
        rw [z i hi, z m (by omega), (fx1 f hf _ (flt2 hf (em m (by omega)) (f0 f)).2.2).2.1, (fx1 f hf _ (em i hi)).2.1, (fx1 f hf _ (f0 f)).1]
  exact h2 7 (by omega) (by omega)
/-- sets of columns that are closed -/
def sbs (f : Nat) (W : vec → Prop) : Prop := (∀ v w, vd f v → (∀ i, i < 7 → v i = w i) → W v → W w) ∧ W (fun _ => 0) ∧ ∀ v w a, vd f v → vd f w → a < fsz f → W v → W w → W (sbm f v a w)
theorem sbs_ker {f : Nat} {P : Nat → Bool} {e : Nat → vec} (h : ec f P e) (hf : f < 4) : sbs f (fun v => vd f v ∧ ∀ i, i < 7 → red f P e 7 v i = 0) := by
  refine ⟨fun v w hv hvw hW => ⟨fun i hi => by rw [← hvw i hi]; exact hv i hi, fun i hi => by rw [← red_ext hvw 7 (by omega) i hi]; exact hW.2 i hi⟩, ⟨fun i _ => f0 f, fun i hi => red_z h hf (fun i _ => f0 f) 7 (by omega) (fun _ _ => rfl) i hi⟩, fun v w a hv hw ha h1 h2 => ⟨vd_sbm hf hv hw ha, fun i hi => ?_⟩⟩
  rw [red_lin h hf hv hw ha 7 (by omega) i hi]
  unfold sbm
  rw [h1.2 i hi, h2.2 i hi, (fx1 f hf _ ha).2.2.1, (fx1 f hf _ (f0 f)).1]
def vdc (f : Nat) (col : Nat → vec) : Prop := ∀ g, g < 7 → vd f (col g)
/-- an echelon of a set's columns -/
def isE (f : Nat) (col : Nat → vec) (s : Nat) (P : Nat → Bool) (e : Nat → vec) : Prop := ec f P e ∧ (∀ g, g < 7 → s.testBit g = true → ∀ i, i < 7 → red f P e 7 (col g) i = 0) ∧ ∀ W, sbs f W → (∀ g, g < 7 → s.testBit g = true → W (col g)) → ∀ p, p < 7 → P p = true → W (e p)
theorem isE_sub {f s : Nat} {col : Nat → vec} {P P' : Nat → Bool} {e e' : Nat → vec} (hf : f < 4) (hc : vdc f col) (h : isE f col s P e) (h' : isE f col s P' e') {p : Nat} (hp7 : p < 7) (hp : P p = true) : P' p = true := by
  have h1 := h.2.2 _ (sbs_ker h'.1 hf) (fun g hg hs => ⟨hc g hg, h'.2.1 g hg hs⟩) p hp7 hp
  have e1 := h.1 p hp7 hp
  exact lead_in h'.1 hf e1.2.2 hp7 e1.1 e1.2.1 (h1.2 p hp7)
theorem isE_uniq {f s : Nat} {col : Nat → vec} {P P' : Nat → Bool} {e e' : Nat → vec} (hf : f < 4) (hc : vdc f col) (h : isE f col s P e) (h' : isE f col s P' e') : wc_cn 7 P = wc_cn 7 P' :=
  Nat.le_antisymm (cn_imp (fun i hi hp => isE_sub hf hc h h' hi hp)) (cn_imp (fun i hi hp => isE_sub hf hc h' h hi hp))
theorem isE_0 (f : Nat) (col : Nat → vec) (e : Nat → vec) : isE f col 0 (fun _ => false) e := ⟨fun p _ hp => (by cases hp), fun g _ hg => (by rw [Nat.zero_testBit] at hg; cases hg), fun W _ _ p _ hp => (by cases hp)⟩
/-- a column that leaves nothing -/
theorem red_none {f : Nat} {P : Nat → Bool} {e : Nat → vec} (h : ec f P e) (hf : f < 4) {v : vec} (hv : vd f v) (hn : ∀ k, k < 7 → P k = false → red f P e k v k = 0) : ∀ i, i < 7 → red f P e 7 v i = 0 := by
  intro i hi
  rw [red_lo h hf hv hi 7 (by omega) (by omega)]
  cases hp : P i with
  | true => exact red_at h hf hv hi hp
  | false =>
    rw [red_s]
    unfold redS
    rw [hp, if_neg Bool.false_ne_true]
    exact hn i hi hp
theorem isE_same {f s g : Nat} {col : Nat → vec} {P : Nat → Bool} {e : Nat → vec} (h : isE f col s P e) (hg : g < 7) (hz : ∀ i, i < 7 → red f P e 7 (col g) i = 0) : isE f col (s ||| 2 ^ g) P e := by
  refine ⟨h.1, fun x hx hb i hi => ?_, fun W hW hc p hp7 hp => h.2.2 W hW (fun x hx hb => hc x hx (by rw [Nat.testBit_or, hb]; rfl)) p hp7 hp⟩
  rw [Nat.testBit_or, Nat.testBit_two_pow, Bool.or_eq_true, decide_eq_true_iff] at hb
  rcases hb with hb | hb
  · exact h.2.1 x hx hb i hi
  · rw [← hb]; exact hz i hi
def updB (P : Nat → Bool) (p : Nat) (y : Bool) : Nat → Bool := fun x => if x = p then y else P x
def updE (e : Nat → vec) (p : Nat) (v : vec) : Nat → vec := fun x => if x = p then v else e x
theorem red_same {f p : Nat} {P : Nat → Bool} {e : Nat → vec} {u : vec} : ∀ k, k ≤ p → ∀ v, red f (updB P p true) (updE e p u) k v = red f P e k v := by
  intro k
  induction k with
  | zero => intro _ v; rfl
  | succ k ih =>
    intro hk v
    rw [red_s, red_s, ih (by omega)]
    unfold redS updB updE
    rw [if_neg (show ¬ k = p by omega), if_neg (show ¬ k = p by omega)]
theorem isE_new {f s g p : Nat} {col : Nat → vec} {P : Nat → Bool} {e : Nat → vec} (hf : f < 4) (hc : vdc f col) (h : isE f col s P e) (hg : g < 7) (hp7 : p < 7) (hp : P p = false) (hn : 0 < red f P e p (col g) p) (hz : ∀ k, k < p → P k = false → red f P e k (col g) k = 0) : isE f col (s ||| 2 ^ g) (updB P p true) (updE e p (red f P e p (col g))) := by
  have dv := vd_red h.1 hf (hc g hg) p (by omega)
  have lo : ∀ i, i < p → red f P e p (col g) i = 0 := by
    intro i hi
    have : red f P e p (col g) i = red f P e (i + 1) (col g) i := by
      rw [red_lo h.1 hf (hc g hg) (show i < 7 by omega) p (by omega) (by omega)]
    rw [this]
    cases hpi : P i with
    | true => exact red_at h.1 hf (hc g hg) (by omega) hpi
    | false => rw [red_s]; unfold redS; rw [hpi, if_neg Bool.false_ne_true]; exact hz i hi hpi
  have hec : ec f (updB P p true) (updE e p (red f P e p (col g))) := by
    intro x hx hpx
    unfold updB at hpx
    unfold updE
    by_cases hxp : x = p
    · subst hxp
      rw [if_pos rfl]
      exact ⟨lo, hn, dv⟩
    · rw [if_neg hxp] at hpx ⊢
      exact h.1 x hx hpx
  have pp : updB P p true p = true := by unfold updB; rw [if_pos rfl]
  have ep : updE e p (red f P e p (col g)) p = red f P e p (col g) := by unfold updE; rw [if_pos rfl]
  refine ⟨hec, fun x hx hb i hi => ?_, fun W hW hcw y hy hpy => ?_⟩
  · rw [Nat.testBit_or, Nat.testBit_two_pow, Bool.or_eq_true, decide_eq_true_iff] at hb
    by_cases hgx : g = x
    · subst hgx
      -- the new one
      have h2 : ∀ k, p + 1 ≤ k → k ≤ 7 → ∀ i, i < 7 → red f (updB P p true) (updE e p (red f P e p (col g))) k (col g) i = 0 := by
        intro k hk
        induction hk with
        | refl =>
          intro _ i hi
          rw [red_s, red_same p (Nat.le_refl p)]
          unfold redS
          rw [pp, if_pos rfl, ep]
          unfold sbm
          rw [fx3 f hf _ (dv p hp7) hn]
          exact (fx1 f hf _ (dv i hi)).2.2.2
        | step h2 ih =>
          rename_i m
          intro hk i hi
          have h2 : p + 1 ≤ m := h2
          have hk : m + 1 ≤ 7 := hk
          have z := ih (by omega)
          rw [red_s]
          unfold redS
          cases hq : updB P p true m with
          | false => rw [if_neg Bool.false_ne_true]; exact z i hi
          | true =>
            rw [if_pos rfl]
            unfold sbm
            have em := (hec m (by omega) hq).2.2
            rw [z i hi, z m (by omega), (fx1 f hf _ (flt2 hf (em m (by omega)) (f0 f)).2.2).2.1, (fx1 f hf _ (em i hi)).2.1, (fx1 f hf _ (f0 f)).1]
      exact h2 7 (by omega) (by omega) i hi
    · have hs : s.testBit x = true := by
        rcases hb with hb | hb
        · exact hb
        · exact absurd hb hgx
      have h0 := h.2.1 x hx hs
      -- as before
      have rp : red f P e p (col x) p = 0 := by
        have := h0 p hp7
        rw [red_lo h.1 hf (hc x hx) hp7 7 (by omega) (by omega), red_s] at this
        unfold redS at this
        rw [hp, if_neg Bool.false_ne_true] at this
        exact this
      have h2 : ∀ k, p + 1 ≤ k → k ≤ 7 → ∀ i, i < 7 → red f (updB P p true) (updE e p (red f P e p (col g))) k (col x) i = red f P e k (col x) i := by
        intro k hk
        induction hk with
        | refl =>
          intro _ i hi
          rw [red_s, red_s, red_same p (Nat.le_refl p)]
          unfold redS
          rw [pp, if_pos rfl, hp, if_neg Bool.false_ne_true, ep]
          unfold sbm
          have dx := vd_red h.1 hf (hc x hx) p (by omega)
          rw [rp, (fx1 f hf _ (flt2 hf (dv p hp7) (f0 f)).2.2).2.1, (fx1 f hf _ (dv i hi)).2.1, (fx1 f hf _ (dx i hi)).1]
        | step h2 ih =>
          rename_i m
          intro hk i hi
          have h2 : p + 1 ≤ m := h2
          have hk : m + 1 ≤ 7 := hk
          have z := ih (by omega)
          rw [red_s, red_s]
          unfold redS
          have b1 : updB P p true m = P m := by unfold updB; rw [if_neg (by omega)]
          have b2 : updE e p (red f P e p (col g)) m = e m := by unfold updE; rw [if_neg (by omega)]
          rw [b1, b2]
          unfold sbm
          rw [z m (by omega)]
          cases P m with
          | true => simp only [if_true]; rw [z i hi]
          | false => simp only [Bool.false_eq_true, if_false]; exact z i hi
      rw [h2 7 (by omega) (by omega) i hi]
      exact h0 i hi
  · have hW0 := h.2.2 W hW (fun x hx hb => hcw x hx (by rw [Nat.testBit_or, hb]; rfl))
    have hWg : W (col g) := hcw g hg (by rw [Nat.testBit_or, Nat.testBit_two_pow, decide_eq_true rfl, Bool.or_true])
    unfold updB at hpy
    unfold updE
    by_cases hyp : y = p
    · rw [if_pos hyp]
      have : ∀ k, k ≤ 7 → W (red f P e k (col g)) := by
        intro k
        induction k with
        | zero => intro _; exact hWg
        | succ k ih =>
          intro hk
          rw [red_s]
          unfold redS
          have dk := vd_red h.1 hf (hc g hg) k (by omega)
          cases hq : P k with
          | false => rw [if_neg Bool.false_ne_true]; exact ih (by omega)
          | true =>
            rw [if_pos rfl]
            exact hW.2.2 _ _ _ dk (h.1 k (by omega) hq).2.2 (h.1.c hf dk (by omega) hq) (ih (by omega)) (hW0 k (by omega) hq)
      exact this p (by omega)
    · rw [if_neg hyp] at hpy ⊢
      exact hW0 y hy hpy
