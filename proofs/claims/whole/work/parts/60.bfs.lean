--deps:19.lay 21.facts 22.00.names 22.01.eq 22.02.eq 22.03.eq 22.04.eq 22.05.eq 22.06.eq 22.07.eq 22.08.eq 22.09.eq 22.10.eq 22.11.eq 22.12.eq 22.13.eq 22.14.eq 22.15.eq 22.16.eq 22.17.eq 22.18.eq 22.19.eq 22.20.eq 22.21.eq 22.22.eq 22.23.eq 23.num 24.town 25.evc 26.evm 27.law 28.says 29.inv 30.api1 31.copy 32.api2 33.api3 34.api4 35.api5 36.deeds 37.hours 38.mdeeds 39.mhours 40.hist 41.full 42.acts 43.acts2 44.played 45.undo 46.trial 47.sets 48.sets2 49.image 50.ask 51.swap 52.level
/-! BREADTH FIRST: the search as numbers. At time t the going t % 64 of the t / 64th of the queue is looked at. -/
set_option linter.unusedSectionVars false
theorem pigeon : ∀ (N len : Nat) (f : Nat → Nat), (∀ i, i < len → f i < N) → (∀ i j, i < j → j < len → ¬ f i = f j) → len ≤ N := by
  intro N
  induction N with
  | zero =>
    intro len f h _
    by_cases c : len = 0
    · omega
    · have := h 0 (by omega); omega
  | succ N ih =>
    intro len f h inj
    by_cases c : ∃ i, i < len ∧ f i = N
    · obtain ⟨i, hi, e⟩ := c
      have := ih (len - 1) (va_up f i (f (len - 1))) (fun j hj => by
        by_cases q : j = i
        · subst q
          rw [up_s]
          have h1 := h (len - 1) (by omega)
          have h2 := inj j (len - 1) (by omega) (by omega)
          omega
        · rw [up_o _ _ q]
          have h1 := h j (by omega)
          have h2 : ¬ f j = f i := by
            rcases Nat.lt_or_gt_of_ne q with z | z
            · exact inj j i z hi
            · intro w; exact inj i j z (by omega) w.symm
          omega) (fun j k hjk hk => by
        by_cases q : j = i
        · subst q
          rw [up_s, up_o _ _ (by omega)]
          intro w
          exact inj k (len - 1) (by omega) (by omega) w.symm
        · rw [up_o _ _ q]
          by_cases q2 : k = i
          · subst q2
            rw [up_s]
            exact inj j (len - 1) (by omega) (by omega)
          · rw [up_o _ _ q2]
            exact inj j k hjk (by omega))
      omega
    · have := ih len f (fun i hi => by
        have h1 := h i hi
        have : ¬ f i = N := fun w => c ⟨i, hi, w⟩
        omega) inj
      omega
/-- the first m are where it begins; q the queue, key when each was come to, lv how far it is -/
def BI (m N : Nat) (E : Nat → Nat → Option Nat) (q key lv : Nat → Nat) (len T : Nat) : Prop :=
  (m ≤ len ∧ T ≤ 64 * len ∧ (∀ i, i < len → q i < N) ∧ (∀ i j, i < j → j < len → ¬ q i = q j)) ∧
  ((∀ i, i < m → lv i = 0) ∧ ∀ i, m ≤ i → i < len → key i < T ∧ key i / 64 < i ∧ E (q (key i / 64)) (key i % 64) = some (q i) ∧ lv i = lv (key i / 64) + 1) ∧
  (∀ i j, m ≤ i → i < j → j < len → key i < key j) ∧
  (∀ t, t < T → ∀ y, E (q (t / 64)) (t % 64) = some y → ∃ i, i < len ∧ q i = y ∧ (m ≤ i → key i ≤ t))
theorem BI_0 {m N : Nat} {E : Nat → Nat → Option Nat} {q key lv : Nat → Nat} (h1 : ∀ i, i < m → q i < N) (h2 : ∀ i j, i < j → j < m → ¬ q i = q j) (h3 : ∀ i, i < m → lv i = 0) : BI m N E q key lv m 0 :=
  ⟨⟨Nat.le_refl _, by omega, h1, h2⟩, ⟨h3, fun i h h' => by omega⟩, fun i j h h' h'' => by omega, fun t h => by omega⟩
theorem BI_len {m N : Nat} {E : Nat → Nat → Option Nat} {q key lv : Nat → Nat} {len T : Nat} (b : BI m N E q key lv len T) : len ≤ N := pigeon N len q b.1.2.2.1 b.1.2.2.2
theorem BI_none {m N : Nat} {E : Nat → Nat → Option Nat} {q key lv : Nat → Nat} {len T : Nat} (b : BI m N E q key lv len T) (hT : T < 64 * len) (e : E (q (T / 64)) (T % 64) = none) : BI m N E q key lv len (T + 1) := by
  obtain ⟨⟨a1, a2, a3, a4⟩, ⟨l0, l1⟩, k1, f1⟩ := b
  refine ⟨⟨a1, by omega, a3, a4⟩, ⟨l0, fun i h h' => ?_⟩, k1, fun t ht y hy => ?_⟩
  · have := l1 i h h'
    exact ⟨by omega, this.2⟩
  · by_cases q : t = T
    · subst q; rw [e] at hy; cases hy
    · exact f1 t (by omega) y hy
theorem BI_old {m N : Nat} {E : Nat → Nat → Option Nat} {q key lv : Nat → Nat} {len T : Nat} (b : BI m N E q key lv len T) (hT : T < 64 * len) {y : Nat} (e : E (q (T / 64)) (T % 64) = some y) {i : Nat} (hi : i < len) (ei : q i = y) : BI m N E q key lv len (T + 1) := by
  obtain ⟨⟨a1, a2, a3, a4⟩, ⟨l0, l1⟩, k1, f1⟩ := b
  refine ⟨⟨a1, by omega, a3, a4⟩, ⟨l0, fun i h h' => ?_⟩, k1, fun t ht z hz => ?_⟩
  · have := l1 i h h'
    exact ⟨by omega, this.2⟩
  · by_cases q : t = T
    · subst q
      rw [e] at hz
      cases hz
      exact ⟨i, hi, ei, fun h => by have := (l1 i h hi).1; omega⟩
    · exact f1 t (by omega) z hz
theorem BI_new {m N : Nat} {E : Nat → Nat → Option Nat} {q key lv : Nat → Nat} {len T : Nat} (b : BI m N E q key lv len T) (hT : T < 64 * len) {y : Nat} (e : E (q (T / 64)) (T % 64) = some y) (hy : y < N) (nq : ∀ i, i < len → ¬ q i = y) : BI m N E (va_up q len y) (va_up key len T) (va_up lv len (lv (T / 64) + 1)) (len + 1) (T + 1) := by
  obtain ⟨⟨a1, a2, a3, a4⟩, ⟨l0, l1⟩, k1, f1⟩ := b
  have hd : T / 64 < len := by omega
  refine ⟨⟨by omega, by omega, fun i hi => ?_, fun i j hij hj => ?_⟩, ⟨fun i hi => ?_, fun i h h' => ?_⟩, fun i j h hij hj => ?_, fun t ht z hz => ?_⟩
  · by_cases c : i = len
    · subst c; rw [up_s]; exact hy
    · rw [up_o _ _ c]; exact a3 i (by omega)
  · rw [up_o _ _ (show ¬ i = len by omega)]
    by_cases c : j = len
    · subst c; rw [up_s]; exact nq i hij
    · rw [up_o _ _ c]; exact a4 i j hij (by omega)
  · rw [up_o _ _ (show ¬ i = len by omega)]; exact l0 i hi
  · by_cases c : i = len
    · subst c
      rw [up_s, up_s, up_s, up_o _ _ (show ¬ T / 64 = i by omega), up_o _ _ (show ¬ T / 64 = i by omega)]
      exact ⟨by omega, hd, e, rfl⟩
    · have := l1 i h (by omega)
      rw [up_o _ _ c, up_o _ _ c, up_o _ _ c, up_o _ _ (show ¬ key i / 64 = len by omega), up_o _ _ (show ¬ key i / 64 = len by omega)]
      exact ⟨by omega, this.2⟩
  · rw [up_o _ _ (show ¬ i = len by omega)]
    by_cases c : j = len
    · subst c; rw [up_s]; exact (l1 i h hij).1
    · rw [up_o _ _ c]; exact k1 i j h hij (by omega)
  · rw [up_o _ _ (show ¬ t / 64 = len by omega)] at hz
    by_cases c : t = T
    · subst c
      rw [e] at hz
      cases hz
      exact ⟨len, by omega, up_s _ _ _, fun _ => by rw [up_s]; exact Nat.le_refl _⟩
    · obtain ⟨i, hi, ei, ki⟩ := f1 t (by omega) z hz
      exact ⟨i, by omega, by rw [up_o _ _ (show ¬ i = len by omega)]; exact ei, fun h => by rw [up_o _ _ (show ¬ i = len by omega)]; exact ki h⟩
/-- farther back, no nearer -/
theorem BI_mono {m N : Nat} {E : Nat → Nat → Option Nat} {q key lv : Nat → Nat} {len T : Nat} (b : BI m N E q key lv len T) : ∀ j, j < len → ∀ i, i ≤ j → lv i ≤ lv j := by
  obtain ⟨⟨a1, a2, a3, a4⟩, ⟨l0, l1⟩, k1, f1⟩ := b
  intro j
  induction j using Nat.strongRecOn with
  | ind j ih =>
    intro hj i hij
    by_cases c : i < m
    · rw [l0 i c]; omega
    · by_cases c2 : i = j
      · subst c2; exact Nat.le_refl _
      · have h1 := l1 i (by omega) (by omega)
        have h2 := l1 j (by omega) hj
        have h3 := k1 i j (by omega) (by omega) hj
        rw [h1.2.2.2, h2.2.2.2]
        have := ih (key j / 64) h2.2.1 (by omega) (key i / 64) (by omega)
        omega
theorem BI_nb {m N : Nat} {E : Nat → Nat → Option Nat} {q key lv : Nat → Nat} {len T : Nat} (b : BI m N E q key lv len T) {u g y : Nat} (hg : g < 64) (hu : 64 * u + g < T) (e : E (q u) g = some y) : ∃ i, i < len ∧ q i = y ∧ (m ≤ i → key i ≤ 64 * u + g) ∧ lv i ≤ lv u + 1 := by
  have mo := BI_mono b
  obtain ⟨⟨a1, a2, a3, a4⟩, ⟨l0, l1⟩, k1, f1⟩ := b
  have e1 : (64 * u + g) / 64 = u := by omega
  have e2 : (64 * u + g) % 64 = g := by omega
  obtain ⟨i, hi, ei, ki⟩ := f1 (64 * u + g) hu y (by rw [e1, e2]; exact e)
  refine ⟨i, hi, ei, ki, ?_⟩
  by_cases c : i < m
  · rw [l0 i c]; omega
  · have h1 := l1 i (by omega) hi
    have h2 := ki (by omega)
    rw [h1.2.2.2]
    have := mo u (by omega) (key i / 64) (by omega)
    omega
/-- two full searches from one standing come to as many -/
theorem BI_sub {N : Nat} {E : Nat → Nat → Option Nat} {q key lv : Nat → Nat} {len T : Nat} {q' key' lv' : Nat → Nat} {len' : Nat} (b : BI 1 N E q key lv len T) (b' : BI 1 N E q' key' lv' len' (64 * len')) (e : q 0 = q' 0) : len ≤ len' := by
  have key : ∀ i, i < len → ∃ j, j < len' ∧ q' j = q i := by
    intro i
    induction i using Nat.strongRecOn with
    | ind i ih =>
      intro hi
      by_cases c : i = 0
      · subst c; exact ⟨0, by have := b'.1.1; omega, e.symm⟩
      · obtain ⟨h1, h2, h3, -⟩ := b.2.1.2 i (by omega) hi
        obtain ⟨j, hj, ej⟩ := ih _ h2 (by omega)
        obtain ⟨k, hk, ek, -⟩ := BI_nb b' (u := j) (g := key i % 64) (y := q i) (by omega) (by omega) (by rw [ej]; exact h3)
        exact ⟨k, hk, ek⟩
  refine pigeon len' len (fun i => if h : i < len then Classical.choose (key i h) else 0) (fun i hi => ?_) (fun i j hij hj => ?_)
  · rw [dif_pos hi]
    exact (Classical.choose_spec (key i hi)).1
  · rw [dif_pos hj, dif_pos (show i < len by omega)]
    have z1 := (Classical.choose_spec (key i (by omega))).2
    have z2 := (Classical.choose_spec (key j hj)).2
    intro w
    rw [w] at z1
    exact b.1.2.2.2 i j hij hj (z1.symm.trans z2)
theorem BI_same {N : Nat} {E : Nat → Nat → Option Nat} {q key lv : Nat → Nat} {len : Nat} {q' key' lv' : Nat → Nat} {len' : Nat} (b : BI 1 N E q key lv len (64 * len)) (b' : BI 1 N E q' key' lv' len' (64 * len')) (e : q 0 = q' 0) : len = len' := Nat.le_antisymm (BI_sub b b' e) (BI_sub b' b e.symm)
/-- back along the traces -/
def anc (key : Nat → Nat) (p : Nat) : Nat → Nat
  | 0 => p
  | r + 1 => key (anc key p r) / 64
/-- how far each is from where all are there: F y = none, it never comes there -/
def FAR (N : Nat) (E : Nat → Nat → Option Nat) (hm gd : Nat → Bool) (F : Nat → Option Nat) : Prop :=
  (∀ y, F y = some 0 → hm y = true) ∧ (∀ y r, F y = some (r + 1) → ∃ g z, g < 64 ∧ E y g = some z ∧ F z = some r) ∧
  (∀ y, y < N → gd y = true → hm y = true → F y = some 0) ∧ (∀ y g z r, gd y = true → E y g = some z → F z = some r → ∃ r', r' ≤ r + 1 ∧ F y = some r')
theorem FAR_no {N : Nat} {E : Nat → Nat → Option Nat} {hm gd : Nat → Bool} {F : Nat → Option Nat} (f : FAR N E hm gd F) {q key lv : Nat → Nat} {len : Nat} (b : BI 1 N E q key lv len (64 * len)) (no : ∀ i, i < len → hm (q i) = false) : ∀ r u, u < len → ¬ F (q u) = some r := by
  intro r
  induction r with
  | zero =>
    intro u hu e
    have := f.1 _ e
    rw [no u hu] at this
    cases this
  | succ r ih =>
    intro u hu e
    obtain ⟨g, z, hg, e1, e2⟩ := f.2.1 _ _ e
    obtain ⟨i, hi, ei, -⟩ := BI_nb b hg (by omega) e1
    exact ih i hi (by rw [ei]; exact e2)
section found
variable {N : Nat} {E : Nat → Nat → Option Nat} {hm gd : Nat → Bool} {F : Nat → Option Nat} {q key lv : Nat → Nat} {len T p : Nat}
theorem anc_lv (b : BI 1 N E q key lv len T) (hp : p < len) : ∀ r, r ≤ lv p → anc key p r < len ∧ lv (anc key p r) + r = lv p ∧ (anc key p r = 0 ↔ r = lv p) := by
  have z : ∀ i, i < len → (i = 0 ↔ lv i = 0) := by
    intro i hi
    constructor
    · intro e; rw [e]; exact b.2.1.1 0 (by omega)
    · intro e
      by_cases c : i = 0
      · exact c
      · have := (b.2.1.2 i (by omega) hi).2.2.2
        omega
  intro r
  induction r with
  | zero =>
    intro _
    have := z p hp
    refine ⟨hp, rfl, ?_⟩
    show p = 0 ↔ _
    omega
  | succ r ih =>
    intro hr
    obtain ⟨h1, h2, h3⟩ := ih (by omega)
    have n0 : ¬ anc key p r = 0 := by omega
    obtain ⟨k1, k2, k3, k4⟩ := b.2.1.2 _ (by omega) h1
    have l1 : anc key p (r + 1) < len := by show key (anc key p r) / 64 < len; omega
    have l2 : lv (anc key p (r + 1)) + (r + 1) = lv p := by show lv (key (anc key p r) / 64) + (r + 1) = lv p; omega
    refine ⟨l1, l2, ?_⟩
    have := z _ l1
    omega
theorem anc_dn (b : BI 1 N E q key lv len T) (hp : p < len) : ∀ r, r + 1 ≤ lv p → anc key p (r + 1) ≤ key p / 64 := by
  intro r
  induction r with
  | zero => intro _; exact Nat.le_refl _
  | succ r ih =>
    intro hr
    have h1 := ih (by omega)
    obtain ⟨a1, a2, a3⟩ := anc_lv b hp (r + 1) (by omega)
    have := (b.2.1.2 _ (by omega) a1).2.1
    show key (anc key p (r + 1)) / 64 ≤ _
    omega
theorem FAR_lo (f : FAR N E hm gd F) (b : BI 1 N E q key lv len T) (hp : p < len) (hT : 64 * (key p / 64 + 1) ≤ T) (fst : ∀ i, i < p → hm (q i) = false) (p0 : ¬ p = 0) : ∀ r u g y, g < 64 → 64 * u + g < T → E (q u) g = some y → F y = some r → lv p ≤ lv u + 1 + r := by
  have mo := BI_mono b
  have lp := (b.2.1.2 p (by omega) hp)
  intro r
  induction r with
  | zero =>
    intro u g y hg hu e ef
    obtain ⟨i, hi, ei, -, li⟩ := BI_nb b hg hu e
    have hi' := f.1 _ ef
    have : p ≤ i := by
      by_cases c : i < p
      · have := fst i c
        rw [ei, hi'] at this
        cases this
      · omega
    have := mo i hi p this
    omega
  | succ r ih =>
    intro u g y hg hu e ef
    obtain ⟨i, hi, ei, -, li⟩ := BI_nb b hg hu e
    obtain ⟨g', z, hg', e1, e2⟩ := f.2.1 _ _ ef
    by_cases c : lv u + 1 + (r + 1) < lv p
    · have : i < key p / 64 := by
        by_cases c2 : i < key p / 64
        · exact c2
        · have := mo i hi (key p / 64) (by omega)
          omega
      have := ih i g' z hg' (by omega) (by rw [ei]; exact e1) e2
      omega
    · omega
theorem FAR_or (f : FAR N E hm gd F) (b : BI 1 N E q key lv len T) (hp : p < len) (hT : 64 * (key p / 64 + 1) ≤ T) (fst : ∀ i, i < p → hm (q i) = false) : ∀ r u, r < lv p → u < anc key p r → ¬ F (q u) = some r := by
  intro r
  induction r with
  | zero =>
    intro u hr hu e
    have := f.1 _ e
    rw [fst u hu] at this
    cases this
  | succ r ih =>
    intro u hr hu e
    obtain ⟨g, z, hg, e1, e2⟩ := f.2.1 _ _ e
    have d1 := anc_dn b hp r (by omega)
    obtain ⟨i, hi, ei, ki, -⟩ := BI_nb b hg (by omega) e1
    obtain ⟨a1, a2, a3⟩ := anc_lv b hp r (by omega)
    refine ih i (by omega) ?_ (by rw [ei]; exact e2)
    have hu' : u < key (anc key p r) / 64 := hu
    by_cases c : i < anc key p r
    · exact c
    · have h1 := ki (by omega)
      by_cases c2 : i = anc key p r
      · rw [c2] at h1; omega
      · have := b.2.2.1 (anc key p r) i (by omega) (by omega) hi
        omega
/-- the far number along the way, and the going that is taken -/
theorem FAR_at (f : FAR N E hm gd F) (b : BI 1 N E q key lv len T) (hp : p < len) (hT : p = 0 ∨ 64 * (key p / 64 + 1) ≤ T) (fst : ∀ i, i < p → hm (q i) = false) (hmp : hm (q p) = true) (gE : ∀ x g y, E x g = some y → gd y = true) : ∀ r, r < lv p → F (q (anc key p r)) = some r ∧ E (q (anc key p (r + 1))) (key (anc key p r) % 64) = some (q (anc key p r)) ∧ (∀ g y r', g < 64 → E (q (anc key p (r + 1))) g = some y → F y = some r' → r ≤ r' ∧ (r' = r → key (anc key p r) % 64 ≤ g)) ∧ hm (q (anc key p (r + 1))) = false := by
  have p0 : 0 < lv p → ¬ p = 0 := by
    intro h e
    rw [e, b.2.1.1 0 (by omega)] at h
    omega
  have up : ∀ r, r < lv p → ∃ r', r' ≤ r ∧ F (q (anc key p r)) = some r' := by
    intro r
    induction r with
    | zero =>
      intro hr
      have := (b.2.1.2 p (by have := p0 hr; omega) hp).2.2.1
      exact ⟨0, Nat.le_refl _, f.2.2.1 _ (b.1.2.2.1 p hp) (gE _ _ _ this) hmp⟩
    | succ r ih =>
      intro hr
      obtain ⟨r', h1, h2⟩ := ih (by omega)
      obtain ⟨a1, a2, a3⟩ := anc_lv b hp r (by omega)
      obtain ⟨c1, c2, c3⟩ := anc_lv b hp (r + 1) (by omega)
      have e1 := (b.2.1.2 _ (by omega) a1).2.2.1
      have e2 := (b.2.1.2 _ (by omega) c1).2.2.1
      obtain ⟨r2, h3, h4⟩ := f.2.2.2 (q (anc key p (r + 1))) _ _ r' (gE _ _ _ e2) e1 h2
      exact ⟨r2, by omega, h4⟩
  intro r hr
  have hT' : 64 * (key p / 64 + 1) ≤ T := by have := p0 (by omega); omega
  obtain ⟨a1, a2, a3⟩ := anc_lv b hp r (by omega)
  obtain ⟨c1, c2, c3⟩ := anc_lv b hp (r + 1) (by omega)
  have d1 := anc_dn b hp r (by omega)
  obtain ⟨k1, k2, e1, k4⟩ := b.2.1.2 _ (show 1 ≤ anc key p r by omega) a1
  have lo := FAR_lo f b hp hT' fst (p0 (by omega))
  have lo' : ∀ g y r', g < 64 → E (q (anc key p (r + 1))) g = some y → F y = some r' → r ≤ r' := by
    intro g y r' hg e ef
    have := lo r' (anc key p (r + 1)) g y hg (by omega) e ef
    omega
  obtain ⟨r', h1, h2⟩ := up r hr
  have h3 := lo' (key (anc key p r) % 64) _ r' (by omega) e1 h2
  have h4 : r' = r := by omega
  subst h4
  refine ⟨h2, e1, fun g y r2 hg e ef => ⟨lo' g y r2 hg e ef, fun er => ?_⟩, fst _ ?_⟩
  · subst er
    by_cases c : key (anc key p r2) % 64 ≤ g
    · exact c
    · obtain ⟨i, hi, ei, ki, -⟩ := BI_nb b hg (u := anc key p (r2 + 1)) (by omega) e
      refine absurd (show F (q i) = some r2 by rw [ei]; exact ef) (FAR_or f b hp hT' fst r2 i hr ?_)
      have kk : key (anc key p r2) = 64 * anc key p (r2 + 1) + key (anc key p r2) % 64 := by
        show key (anc key p r2) = 64 * (key (anc key p r2) / 64) + key (anc key p r2) % 64
        omega
      by_cases c2 : i < anc key p r2
      · exact c2
      · have h1 := ki (by omega)
        by_cases c3 : i = anc key p r2
        · rw [c3] at h1; omega
        · have := b.2.2.1 (anc key p r2) i (by omega) (by omega) hi
          omega
  · have := (b.2.1.2 p (by have := p0 (by omega); omega) hp).2.1
    omega
end found
/-- the reference's search from all that are there -/
def farO (q lv : Nat → Nat) : Nat → Nat → Option Nat
  | 0, _ => none
  | k + 1, y => if q k = y then some (lv k) else farO q lv k y
theorem farO_in {q lv : Nat → Nat} {len : Nat} (inj : ∀ i j, i < j → j < len → ¬ q i = q j) : ∀ k, k ≤ len → ∀ i, i < k → farO q lv k (q i) = some (lv i) := by
  intro k
  induction k with
  | zero => intro _ i hi; omega
  | succ k ih =>
    intro hk i hi
    rw [farO]
    by_cases c : i = k
    · subst c; rw [if_pos rfl]
    · rw [if_neg (fun w => inj i k (by omega) (by omega) w.symm)]
      exact ih (by omega) i (by omega)
theorem farO_some {q lv : Nat → Nat} {y r : Nat} : ∀ k, farO q lv k y = some r → ∃ i, i < k ∧ q i = y ∧ lv i = r := by
  intro k
  induction k with
  | zero => intro e; cases e
  | succ k ih =>
    intro e
    rw [farO] at e
    by_cases c : q k = y
    · rw [if_pos c] at e
      cases e
      exact ⟨k, by omega, c, rfl⟩
    · rw [if_neg c] at e
      obtain ⟨i, h1, h2⟩ := ih e
      exact ⟨i, by omega, h2⟩
theorem farO_none {q lv : Nat → Nat} {y : Nat} : ∀ k, (∀ i, i < k → ¬ q i = y) → farO q lv k y = none := by
  intro k
  induction k with
  | zero => intro _; rfl
  | succ k ih =>
    intro h
    rw [farO, if_neg (h k (by omega))]
    exact ih (fun i hi => h i (by omega))
theorem FAR_of {m N : Nat} {E : Nat → Nat → Option Nat} {hm gd : Nat → Bool} {q key lv : Nat → Nat} {len : Nat} (b : BI m N E q key lv len (64 * len)) (s1 : ∀ i, i < m → gd (q i) = true ∧ hm (q i) = true) (s2 : ∀ y, y < N → gd y = true → hm y = true → ∃ i, i < m ∧ q i = y) (gE : ∀ x g y, E x g = some y → gd y = true) (sy : ∀ x g y, g < 64 → gd x = true → E x g = some y → ∃ g', g' < 64 ∧ E y g' = some x) (g64 : ∀ x g y, E x g = some y → g < 64) : FAR N E hm gd (farO q lv len) := by
  have gq : ∀ i, i < len → gd (q i) = true := by
    intro i hi
    by_cases c : i < m
    · exact (s1 i c).1
    · exact gE _ _ _ (b.2.1.2 i (by omega) hi).2.2.1
  refine ⟨fun y e => ?_, fun y r e => ?_, fun y h0 h1 h2 => ?_, fun y g z r h1 h2 h3 => ?_⟩
  · obtain ⟨i, hi, ei, li⟩ := farO_some _ e
    by_cases c : i < m
    · rw [← ei]; exact (s1 i c).2
    · have := (b.2.1.2 i (by omega) hi).2.2.2
      omega
  · obtain ⟨i, hi, ei, li⟩ := farO_some _ e
    have c : m ≤ i := by
      by_cases c : i < m
      · have := b.2.1.1 i c; omega
      · omega
    obtain ⟨k1, k2, k3, k4⟩ := b.2.1.2 i c hi
    obtain ⟨g', hg', e'⟩ := sy _ _ _ (Nat.mod_lt _ (by omega)) (gq (key i / 64) (by omega)) k3
    rw [ei] at e'
    refine ⟨g', _, hg', e', ?_⟩
    rw [farO_in b.1.2.2.2 len (Nat.le_refl _) (key i / 64) (by omega)]
    congr 1
    omega
  · obtain ⟨i, hi, ei⟩ := s2 y h0 h1 h2
    rw [← ei, farO_in b.1.2.2.2 len (Nat.le_refl _) i (by have := b.1.1; omega), b.2.1.1 i hi]
  · obtain ⟨i, hi, ei, li⟩ := farO_some _ h3
    obtain ⟨g', hg', e'⟩ := sy _ _ _ (g64 _ _ _ h2) h1 h2
    rw [← ei] at e'
    obtain ⟨j, hj, ej, -, lj⟩ := BI_nb b hg' (by omega) e'
    refine ⟨lv j, by omega, ?_⟩
    rw [← ej]
    exact farO_in b.1.2.2.2 len (Nat.le_refl _) j hj
/-! GOINGS -/
def gsh (n x p : Nat) (r : Bool) : Option Nat := if p < n then (if x / 9 ^ p % 9 = cond r 8 0 then none else some (cond r (x + 9 ^ p) (x - 9 ^ p))) else none
theorem gsh_lt {n x p y : Nat} {r : Bool} (hn : n ≤ 4) (hx : x < 9 ^ n) (e : gsh n x p r = some y) : y < 9 ^ n := by
  unfold gsh at e
  by_cases c : p < n
  · rw [if_pos c] at e
    have cs : ∀ (A B : Nat), (∃ k, B = 9 * k * A ∧ 0 < k) → 0 < A → x < B → x / A % 9 < 8 → x + A < B := by
      rintro A B ⟨k, rfl, hk⟩ hA h1 h2
      have h3 : x / A < 9 * k := (Nat.div_lt_iff_lt_mul hA).mpr h1
      have h4 : x / A + 1 < 9 * k := by omega
      have h5 : x / A + 1 = (x + A) / A := (Nat.add_div_right x hA).symm
      rw [h5] at h4
      exact (Nat.div_lt_iff_lt_mul hA).mp h4
    by_cases d : x / 9 ^ p % 9 = cond r 8 0
    · rw [if_pos d] at e; cases e
    · rw [if_neg d] at e
      cases e
      cases r with
      | false => exact Nat.lt_of_le_of_lt (Nat.sub_le _ _) hx
      | true =>
        refine cs (9 ^ p) (9 ^ n) ⟨9 ^ (n - p - 1), ?_, Nat.pow_pos (by decide)⟩ (Nat.pow_pos (by decide)) hx (by have : ¬ x / 9 ^ p % 9 = 8 := d; omega)
        rw [Nat.mul_assoc, ← Nat.pow_add, Nat.mul_comm, ← Nat.pow_succ]
        congr 1
        omega
  · rw [if_neg c] at e; cases e
theorem gsh_back {n x p y : Nat} {r : Bool} (e : gsh n x p r = some y) : gsh n y p (!r) = some x := by
  unfold gsh at *
  by_cases c : p < n
  · rw [if_pos c] at *
    have hA : 0 < 9 ^ p := Nat.pow_pos (by decide)
    generalize 9 ^ p = A at *
    by_cases d : x / A % 9 = cond r 8 0
    · rw [if_pos d] at e; cases e
    · rw [if_neg d] at e
      cases e
      cases r with
      | false =>
        have d' : ¬ x / A % 9 = 0 := d
        have le : A ≤ x := by
          by_cases q : A ≤ x
          · exact q
          · rw [Nat.div_eq_of_lt (by omega)] at d'; omega
        show (if (x - A) / A % 9 = 8 then none else some (x - A + A)) = some x
        have h5 : (x - A) / A = x / A - 1 := by
          have := Nat.add_div_right (x - A) hA
          rw [Nat.sub_add_cancel le] at this
          rw [this]
          rfl
        have := Nat.div_pos le hA
        rw [h5, if_neg (by omega), Nat.sub_add_cancel le]
      | true =>
        have d' : ¬ x / A % 9 = 8 := d
        show (if (x + A) / A % 9 = 0 then none else some (x + A - A)) = some x
        rw [Nat.add_div_right x hA, if_neg (by omega), Nat.add_sub_cancel]
  · rw [if_neg c] at e; cases e
/-- one's going leaves the other's place -/
theorem gsh_oth {n x p y : Nat} {r : Bool} (hn : n ≤ 4) (e : gsh n x p r = some y) : ∀ k, k < 4 → ¬ k = p → y / 9 ^ k % 9 = x / 9 ^ k % 9 := by
  unfold gsh at e
  by_cases c : p < n
  · rw [if_pos c] at e
    by_cases d : x / 9 ^ p % 9 = cond r 8 0
    · rw [if_pos d] at e; cases e
    · rw [if_neg d] at e
      cases e
      have p4 : p = 0 ∨ p = 1 ∨ p = 2 ∨ p = 3 := by omega
      intro k hk kp
      have k4 : k = 0 ∨ k = 1 ∨ k = 2 ∨ k = 3 := by omega
      cases r with
      | false =>
        show (x - 9 ^ p) / 9 ^ k % 9 = _
        have d' : ¬ x / 9 ^ p % 9 = 0 := d
        rcases p4 with rfl | rfl | rfl | rfl <;> rcases k4 with rfl | rfl | rfl | rfl <;> first | exact absurd rfl kp | (simp only [Nat.reducePow] at d' ⊢; omega)
      | true =>
        show (x + 9 ^ p) / 9 ^ k % 9 = _
        have d' : ¬ x / 9 ^ p % 9 = 8 := d
        rcases p4 with rfl | rfl | rfl | rfl <;> rcases k4 with rfl | rfl | rfl | rfl <;> first | exact absurd rfl kp | (simp only [Nat.reducePow] at d' ⊢; omega)
  · rw [if_neg c] at e; cases e
def rtB (k : Nat) : Bool := decide (k % 2 = 1)
def ldT (n x g : Nat) : Option Nat := if g < 8 then gsh n x (g / 2) (rtB g) else if g < 10 then none else if (g - 10) / 16 < (g - 10) / 2 % 4 then (gsh n x ((g - 10) / 16) (rtB ((g - 10) / 8))).bind (fun y => gsh n y ((g - 10) / 2 % 4) (rtB (g - 10))) else none
def EG (n : Nat) (w : Bool) (gd : Nat → Bool) (x g : Nat) : Option Nat := if g < (cond w 58 8) then (ldT n x g).bind (fun y => cond (gd y) (some y) none) else none
theorem EG_gd {n : Nat} {w : Bool} {gd : Nat → Bool} {x g y : Nat} (e : EG n w gd x g = some y) : gd y = true ∧ g < 58 ∧ ldT n x g = some y := by
  unfold EG at e
  by_cases c : g < cond w 58 8
  · rw [if_pos c] at e
    have g5 : g < 58 := by cases w <;> simp only [cond_true, cond_false] at c <;> omega
    cases q : ldT n x g with
    | none => rw [q] at e; cases e
    | some z =>
      rw [q] at e
      have e' : cond (gd z) (some z) none = some y := e
      cases q2 : gd z with
      | false => rw [q2] at e'; cases e'
      | true =>
        rw [q2] at e'
        cases e'
        exact ⟨q2, g5, rfl⟩
  · rw [if_neg c] at e; cases e
theorem ldT_lt {n x g y : Nat} (hn : n ≤ 4) (hx : x < 9 ^ n) (e : ldT n x g = some y) : y < 9 ^ n := by
  unfold ldT at e
  by_cases c : g < 8
  · rw [if_pos c] at e; exact gsh_lt hn hx e
  · rw [if_neg c] at e
    by_cases c2 : g < 10
    · rw [if_pos c2] at e; cases e
    · rw [if_neg c2] at e
      by_cases c3 : (g - 10) / 16 < (g - 10) / 2 % 4
      · rw [if_pos c3] at e
        cases q : gsh n x ((g - 10) / 16) (rtB ((g - 10) / 8)) with
        | none => rw [q] at e; cases e
        | some z =>
          rw [q] at e
          exact gsh_lt hn (gsh_lt hn hx q) e
      · rw [if_neg c3] at e; cases e
theorem gsh_comm {n x y z p k : Nat} {r s : Bool} (hn : n ≤ 4) (hpk : p < k) (e1 : gsh n x p r = some y) (e2 : gsh n y k s = some z) : ∃ y', gsh n z p (!r) = some y' ∧ gsh n y' k (!s) = some x := by
  have b2 := gsh_back e2
  have b1 := gsh_back e1
  have pn : p < n := by
    by_cases c : p < n
    · exact c
    · unfold gsh at e1; rw [if_neg c] at e1; cases e1
  have kn : k < n := by
    by_cases c : k < n
    · exact c
    · unfold gsh at e2; rw [if_neg c] at e2; cases e2
  have o2 := gsh_oth hn e2 p (by omega) (by omega)
  have oB := gsh_oth hn b1 k (by omega) (by omega)
  have f1 : ¬ y / 9 ^ p % 9 = cond (!r) 8 0 := by
    intro w
    unfold gsh at b1
    rw [if_pos pn, if_pos w] at b1
    cases b1
  have f2 : ¬ z / 9 ^ k % 9 = cond (!s) 8 0 := by
    intro w
    unfold gsh at b2
    rw [if_pos kn, if_pos w] at b2
    cases b2
  have v1 : some (cond (!r) (y + 9 ^ p) (y - 9 ^ p)) = some x := by
    unfold gsh at b1
    rw [if_pos pn, if_neg f1] at b1
    exact b1
  have v2 : some (cond (!s) (z + 9 ^ k) (z - 9 ^ k)) = some y := by
    unfold gsh at b2
    rw [if_pos kn, if_neg f2] at b2
    exact b2
  have g1 : ¬ z / 9 ^ p % 9 = cond (!r) 8 0 := by rw [o2]; exact f1
  have s1 : gsh n z p (!r) = some (cond (!r) (z + 9 ^ p) (z - 9 ^ p)) := by
    unfold gsh
    rw [if_pos pn, if_neg g1]
  have o3 := gsh_oth hn s1 k (by omega) (by omega)
  refine ⟨_, s1, ?_⟩
  unfold gsh
  rw [if_pos kn, o3, if_neg f2]
  have pA : 0 < 9 ^ p := Nat.pow_pos (by decide)
  have kA : 0 < 9 ^ k := Nat.pow_pos (by decide)
  have low : ∀ u j : Nat, ¬ u / 9 ^ j % 9 = 0 → 9 ^ j ≤ u := by
    intro u j h
    by_cases c : 9 ^ j ≤ u
    · exact c
    · rw [Nat.div_eq_of_lt (by omega)] at h; omega
  have w1 := Option.some.inj v1
  have w2 := Option.some.inj v2
  refine congrArg some ?_
  cases r <;> cases s <;> simp only [Bool.not_true, Bool.not_false, cond_true, cond_false] at *
  · omega
  · have := low z k f2
    have l3 := low (z + 9 ^ p) k (by rw [o3]; exact f2)
    omega
  · have := low z p g1
    have := low y p f1
    omega
  · have := low z k f2
    have := low z p g1
    have := low y p f1
    have l3 := low (z - 9 ^ p) k (by rw [o3]; exact f2)
    omega
theorem rtB_not {k j : Nat} (h : ¬ k % 2 = j % 2) : rtB k = !(rtB j) := by
  unfold rtB
  by_cases c : j % 2 = 1
  · rw [decide_eq_true c, decide_eq_false (by omega)]; rfl
  · rw [decide_eq_false c, decide_eq_true (by omega)]; rfl
theorem ldT_back {n x g y : Nat} (hn : n ≤ 4) (hg : g < 58) (e : ldT n x g = some y) : ∃ g', g' < 58 ∧ (g < 8 → g' < 8) ∧ ldT n y g' = some x := by
  unfold ldT at e
  by_cases c : g < 8
  · rw [if_pos c] at e
    have b := gsh_back e
    have : ∃ g', g' < 8 ∧ g' / 2 = g / 2 ∧ ¬ g' % 2 = g % 2 := ⟨if g % 2 = 1 then g - 1 else g + 1, by split <;> omega, by split <;> omega, by split <;> omega⟩
    obtain ⟨g', h1, h2, h3⟩ := this
    refine ⟨g', by omega, fun _ => h1, ?_⟩
    unfold ldT
    rw [if_pos h1, h2, rtB_not h3]
    exact b
  · rw [if_neg c] at e
    by_cases c2 : g < 10
    · rw [if_pos c2] at e; cases e
    · rw [if_neg c2] at e
      by_cases c3 : (g - 10) / 16 < (g - 10) / 2 % 4
      · rw [if_pos c3] at e
        cases q : gsh n x ((g - 10) / 16) (rtB ((g - 10) / 8)) with
        | none => rw [q] at e; cases e
        | some z =>
          rw [q] at e
          obtain ⟨y', h1, h2⟩ := gsh_comm hn c3 q e
          obtain ⟨g', k1, k2, k3, k4, k5, k6⟩ : ∃ g', g' < 58 ∧ 10 ≤ g' ∧ (g' - 10) / 16 = (g - 10) / 16 ∧ (g' - 10) / 2 % 4 = (g - 10) / 2 % 4 ∧ ¬ (g' - 10) / 8 % 2 = (g - 10) / 8 % 2 ∧ ¬ (g' - 10) % 2 = (g - 10) % 2 := by
            generalize hj : g - 10 = j
            have j4 : j < 48 := by omega
            have : ∀ j, j < 48 → ∃ k, k < 48 ∧ k / 16 = j / 16 ∧ k / 2 % 4 = j / 2 % 4 ∧ ¬ k / 8 % 2 = j / 8 % 2 ∧ ¬ k % 2 = j % 2 := by
              intro j hj
              refine ⟨if j / 8 % 2 = 1 then (if j % 2 = 1 then j - 9 else j - 7) else (if j % 2 = 1 then j + 7 else j + 9), ?_⟩
              refine ⟨?_, ?_, ?_, ?_, ?_⟩ <;> (split <;> split <;> omega)
            obtain ⟨k, q1, q2, q3, q4, q5⟩ := this j j4
            exact ⟨k + 10, by omega, by omega, by rw [Nat.add_sub_cancel]; exact q2, by rw [Nat.add_sub_cancel]; exact q3, by rw [Nat.add_sub_cancel]; exact q4, by rw [Nat.add_sub_cancel]; exact q5⟩
          refine ⟨g', k1, fun h => absurd h c, ?_⟩
          unfold ldT
          rw [if_neg (by omega), if_neg (by omega), k3, k4, if_pos c3, rtB_not k5, rtB_not k6, h1]
          exact h2
      · rw [if_neg c3] at e; cases e
theorem EG_sy {n : Nat} {w : Bool} {gd : Nat → Bool} (hn : n ≤ 4) : ∀ x g y, g < 64 → gd x = true → EG n w gd x g = some y → ∃ g', g' < 64 ∧ EG n w gd y g' = some x := by
  intro x g y _ hx e
  obtain ⟨h1, h2, h3⟩ := EG_gd e
  obtain ⟨g', k1, k2, k3⟩ := ldT_back hn h2 h3
  refine ⟨g', by omega, ?_⟩
  unfold EG at *
  by_cases c : g < cond w 58 8
  · rw [if_pos (by cases w <;> simp only [cond_true, cond_false] at * <;> omega), k3]
    show cond (gd x) (some x) none = some x
    rw [hx]
    rfl
  · rw [if_neg c] at e; cases e
