--deps:19.lay 21.facts 22.00.names 22.01.eq 22.02.eq 22.03.eq 22.04.eq 22.05.eq 22.06.eq 22.07.eq 22.08.eq 22.09.eq 22.10.eq 22.11.eq 22.12.eq 22.13.eq 22.14.eq 22.15.eq 22.16.eq 22.17.eq 22.18.eq 22.19.eq 22.20.eq 22.21.eq 22.22.eq 22.23.eq 23.num 24.town 25.evc 26.evm 27.law 28.says 29.inv 71.yard 72.yard2 73.gx 74.gx2 75.gx3 76.reader 79.mtok 80.mpile 81.myard 82.msum
/-! TOKENS: what bytes stand for; the reference's next token -/
set_option linter.unusedSectionVars false
/-! u_tn, g_or, g_shl, pf_lI, pf_shr are the kit's BITS.to-paste -/
theorem u_tn {n : Nat} (h : n < 2 ^ 64) : (UInt64.ofNat n).toNat = n := by rw [UInt64.toNat_ofNat', Nat.mod_eq_of_lt h]
theorem g_or {k p a b : Nat} (hp : 2 ^ k = p) (ha : a < p) (h : b * p + a < 2 ^ 64) : lN (b * p) ||| lN a = lN (b * p + a) := by
  subst hp
  have h1 : b * 2 ^ k ||| a = b * 2 ^ k + a := by rw [← Nat.shiftLeft_eq, Nat.shiftLeft_add_eq_or_of_lt ha]
  have h3 : UInt64.ofNat (b * 2 ^ k) ||| UInt64.ofNat a = UInt64.ofNat (b * 2 ^ k + a) := UInt64.toNat_inj.mp (by rw [UInt64.toNat_or, u_tn (by omega), u_tn (by omega), u_tn h, h1])
  have h2 := congrArg UInt64.toInt64 h3
  exact h2
theorem g_shl {a k p : Nat} {y : Int64} (hy : y.toBitVec.smod 64 = BitVec.ofNat 64 k) (hk : k < 64) (hp : 2 ^ k = p) (ha : a < 2 ^ 64) : lN a <<< y = lN (a * p) := by
  subst hp
  apply Int64.toBitVec_inj.mp
  rw [Int64.toBitVec_shiftLeft, hy]
  apply BitVec.eq_of_toNat_eq
  have hb : (lN a).toBitVec.toNat = a := Nat.mod_eq_of_lt ha
  have hk' : (BitVec.ofNat 64 k).toNat = k := Nat.mod_eq_of_lt (by omega)
  have h : ((lN a).toBitVec <<< BitVec.ofNat 64 k).toNat = (a * 2 ^ k) % 2 ^ 64 := by simp only [BitVec.shiftLeft_eq', BitVec.toNat_shiftLeft, hb, hk', Nat.shiftLeft_eq]
  exact h
theorem pf_lI {a : Nat} (h : a < 2 ^ 63) : (lN a).toInt = (a : Int) := lg_ofNat_toInt h
theorem pf_shr {a d : Nat} {D : Int64} (hD : (D.toBitVec.smod 64).toNat = d) (h : a < 2 ^ 62) : lN a >>> D = lN (a / 2 ^ d) := by
  have hd : a / 2 ^ d ≤ a := Nat.div_le_self _ _
  apply Int64.toInt_inj.mp
  have e : (lN a >>> D).toInt = (lN a).toInt >>> d := by
    rw [← hD]
    exact BitVec.toInt_sshiftRight ..
  rw [e, Int.shiftRight_eq_div_pow, pf_lI (by omega), pf_lI (by omega)]
  rfl
abbrev isD (b : Nat) : Prop := 48 ≤ b ∧ b ≤ 57
abbrev isL (b : Nat) : Prop := 97 ≤ b ∧ b ≤ 122 ∨ 65 ≤ b ∧ b ≤ 90
abbrev isB (b : Nat) : Prop := b = 32 ∨ b = 10
def RUNT (P : Nat → Prop) (by_ : Nat → Nat) (len s e : Nat) : Prop := s < e ∧ e ≤ len ∧ (∀ j, s ≤ j → j < e → P (by_ j)) ∧ (e < len → ¬ P (by_ e))
/-- the number as the class and as the reference count it -/
def cNu (by_ : Nat → Nat) (s : Nat) : Nat → Nat
  | 0 => 0
  | n + 1 => min (cNu by_ s n * 10 + (by_ (s + n) - 48)) 10000
def mNu (by_ : Nat → Nat) (s : Nat) : Nat → Nat
  | 0 => 0
  | n + 1 => if 99999 < mNu by_ s n then mNu by_ s n else 10 * mNu by_ s n + (by_ (s + n) - 48)
def vN (f : Nat → Nat) : Nat → Nat
  | 0 => 0
  | n + 1 => vN f n * 256 + f n
def wNu (by_ : Nat → Nat) (s : Nat) : Nat → Nat
  | 0 => 0
  | n + 1 => if wNu by_ s n / 281474976710656 = 0 then wNu by_ s n * 256 + by_ (s + n) else 1152921504606846976
def MW (by_ : Nat → Nat) (s e i : Nat) : Prop := e - s = (wds.getD i []).length ∧ ∀ j, j < e - s → by_ (s + j) = (wds.getD i []).getD j 0
def WRD (by_ : Nat → Nat) (s e k : Nat) : Prop := (∃ i, i < 24 ∧ k = 300 + i ∧ MW by_ s e i) ∨ (k = 260 ∧ ∀ i, i < 24 → ¬ MW by_ s e i)
def orL (by_ : Nat → Nat) (len s : Nat) : Prop := (by_ s = 60 ∨ by_ s = 62) ∧ s + 1 < len ∧ by_ (s + 1) = 61
def SGN (by_ : Nat → Nat) (len s e k : Nat) : Prop := (orL by_ len s ∧ e = s + 2 ∧ (by_ s = 60 ∧ k = 256 ∨ by_ s = 62 ∧ k = 257)) ∨ (¬ orL by_ len s ∧ e = s + 1 ∧ (sgnT (by_ s) ∧ k = by_ s ∨ ¬ sgnT (by_ s) ∧ k = 260))
def TOKS (by_ : Nat → Nat) (len s e k v : Nat) : Prop := (s = len ∧ e = len ∧ k = 259) ∨ (s < len ∧ isD (by_ s) ∧ RUNT isD by_ len s e ∧ k = 258 ∧ v = cNu by_ s (e - s)) ∨ (s < len ∧ isL (by_ s) ∧ RUNT isL by_ len s e ∧ WRD by_ s e k) ∨ (s < len ∧ (¬ isD (by_ s) ∧ ¬ isL (by_ s)) ∧ SGN by_ len s e k)
def BLK (by_ : Nat → Nat) (len a s : Nat) : Prop := a ≤ s ∧ s ≤ len ∧ (∀ j, a ≤ j → j < s → isB (by_ j)) ∧ (s < len → ¬ isB (by_ s))
theorem mNu_bd {by_ : Nat → Nat} {s : Nat} : ∀ n, (∀ j, j < n → isD (by_ (s + j))) → mNu by_ s n ≤ 999999 ∧ cNu by_ s n = min (mNu by_ s n) 10000 := by
  intro n
  induction n with
  | zero => intro _; exact ⟨Nat.zero_le _, rfl⟩
  | succ n ih =>
    intro h
    obtain ⟨h1, h2⟩ := ih fun j hj => h j (by omega)
    have h3 := h n (by omega)
    unfold isD at h3
    rw [mNu, cNu, h2]
    split <;> omega
theorem vN_inj : ∀ (n m : Nat) (f g : Nat → Nat), (∀ j, j < n → 1 ≤ f j ∧ f j < 256) → (∀ j, j < m → 1 ≤ g j ∧ g j < 256) → vN f n = vN g m → n = m ∧ ∀ j, j < n → f j = g j := by
  intro n
  induction n with
  | zero =>
    intro m f g hf hg e
    cases m with
    | zero => exact ⟨rfl, fun j hj => absurd hj (Nat.not_lt_zero j)⟩
    | succ m =>
      have := hg m (by omega)
      rw [vN, vN] at e
      omega
  | succ n ih =>
    intro m f g hf hg e
    cases m with
    | zero =>
      have := hf n (by omega)
      rw [vN, vN] at e
      omega
    | succ m =>
      have h1 := hf n (by omega)
      have h2 := hg m (by omega)
      rw [vN, vN] at e
      obtain ⟨h3, h4⟩ := ih m f g (fun j hj => hf j (by omega)) (fun j hj => hg j (by omega)) (by omega)
      subst h3
      refine ⟨rfl, fun j hj => ?_⟩
      rcases Nat.lt_or_ge j n with c | c
      · exact h4 j c
      · have : j = n := by omega
        subst this
        omega
theorem vN_lt : ∀ (n : Nat) (f : Nat → Nat), (∀ j, j < n → f j < 256) → vN f n < 256 ^ n := by
  intro n
  induction n with
  | zero => intro f _; exact Nat.one_pos
  | succ n ih =>
    intro f h
    have h1 := ih f fun j hj => h j (by omega)
    have h2 := h n (by omega)
    rw [vN, Nat.pow_succ]
    generalize 256 ^ n = q at *
    omega
theorem vN_ge : ∀ (n : Nat) (f : Nat → Nat), (∀ j, j < n + 1 → 1 ≤ f j) → 256 ^ n ≤ vN f (n + 1) := by
  intro n
  induction n with
  | zero => intro f h; have := h 0 (by omega); rw [vN, vN]; simpa using this
  | succ n ih =>
    intro f h
    have h1 := ih f fun j hj => h j (by omega)
    rw [vN, Nat.pow_succ]
    generalize 256 ^ n = q at *
    omega
theorem wNu_c {by_ : Nat → Nat} {s : Nat} : ∀ n, (∀ j, j < n → 1 ≤ by_ (s + j) ∧ by_ (s + j) < 256) → (n ≤ 7 → wNu by_ s n = vN (fun j => by_ (s + j)) n) ∧ (8 ≤ n → wNu by_ s n = 1152921504606846976) := by
  intro n
  induction n with
  | zero => intro _; exact ⟨fun _ => rfl, fun h => by omega⟩
  | succ n ih =>
    intro h
    obtain ⟨h1, h2⟩ := ih fun j hj => h j (by omega)
    rw [wNu]
    refine ⟨fun c => ?_, fun c => ?_⟩
    · have l := vN_lt n (fun j => by_ (s + j)) fun j hj => (h j (by omega)).2
      have l2 : 256 ^ n ≤ 256 ^ 6 := Nat.pow_le_pow_right (by decide) (by omega)
      have l3 : 256 ^ 6 = 281474976710656 := by decide
      rw [h1 (by omega), if_pos (Nat.div_eq_of_lt (by omega)), vN]
    · rcases Nat.lt_or_ge n 8 with c2 | c2
      · have : n = 7 := by omega
        subst this
        have l := vN_ge 6 (fun j => by_ (s + j)) fun j hj => (h j (by omega)).1
        have l3 : 256 ^ 6 = 281474976710656 := by decide
        have h17 : wNu by_ s 7 = vN (fun j => by_ (s + j)) (6 + 1) := h1 (by omega)
        rw [if_neg]
        intro z
        have := Nat.div_eq_zero_iff.mp z
        omega
      · rw [h2 c2, if_neg (by decide)]
theorem wNu_lt {by_ : Nat → Nat} {s n : Nat} (h : ∀ j, j < n → 1 ≤ by_ (s + j) ∧ by_ (s + j) < 256) : wNu by_ s n ≤ 1152921504606846976 := by
  obtain ⟨h1, h2⟩ := wNu_c n h
  rcases Nat.lt_or_ge n 8 with c | c
  · have l := vN_lt n (fun j => by_ (s + j)) fun j hj => (h j hj).2
    have l2 : 256 ^ n ≤ 256 ^ 7 := Nat.pow_le_pow_right (by decide) (by omega)
    have l3 : 256 ^ 7 = 72057594037927936 := by decide
    rw [h1 (by omega)]
    omega
  · rw [h2 c]; exact Nat.le_refl _
theorem wd_v : ∀ i, i < 24 → (WV i = lN (vN (fun j => (wds.getD i []).getD j 0) (wds.getD i []).length)) ∧ (wds.getD i []).length ≤ 6 ∧ (∀ j, j < (wds.getD i []).length → 1 ≤ (wds.getD i []).getD j 0 ∧ (wds.getD i []).getD j 0 < 256) := by decide +kernel
/-- the reference's word is one of ours just where its letters are -/
theorem wrd_v {by_ : Nat → Nat} {s e i : Nat} (hi : i < 24) (hL : ∀ j, j < e - s → 1 ≤ by_ (s + j) ∧ by_ (s + j) < 256) : lN (wNu by_ s (e - s)) = WV i ↔ MW by_ s e i := by
  obtain ⟨w1, w2, w3⟩ := wd_v i hi
  obtain ⟨h1, h2⟩ := wNu_c (e - s) hL
  have l6 := vN_lt (wds.getD i []).length (fun j => (wds.getD i []).getD j 0) fun j hj => (w3 j hj).2
  have l7 : 256 ^ (wds.getD i []).length ≤ 256 ^ 6 := Nat.pow_le_pow_right (by decide) w2
  have l8 : 256 ^ 6 = 281474976710656 := by decide
  rw [w1, pk_lEQ (by have := wNu_lt hL; omega) (by omega)]
  constructor
  · intro z
    rcases Nat.lt_or_ge (e - s) 8 with c | c
    · rw [h1 (by omega)] at z
      obtain ⟨z1, z2⟩ := vN_inj _ _ _ _ hL w3 z
      exact ⟨z1, z2⟩
    · rw [h2 c] at z
      omega
  · rintro ⟨m1, m2⟩
    rw [h1 (by omega), m1]
    have : ∀ n, n ≤ e - s → vN (fun j => by_ (s + j)) n = vN (fun j => (wds.getD i []).getD j 0) n := by
      intro n
      induction n with
      | zero => intro _; rfl
      | succ n ih => intro hn; rw [vN, vN, ih (by omega), m2 n (by omega)]
    exact this _ (by omega)
theorem shr48 {y : Nat} (h : y ≤ 1152921504606846976) : (lg_cmp (lN y >>> ((48 : Int32).toInt64 &&& 63)) 0 = 0) = (y / 281474976710656 = 0) := by
  have := Nat.div_le_self y 281474976710656
  rw [pf_shr (d := 48) (by decide +kernel) (by omega), show (2 : Nat) ^ 48 = 281474976710656 from by decide, lg_cmp_eq, show (0 : Int64) = lN 0 from rfl, pk_lEQ (by omega) (by decide)]
theorem shl8 {y b : Nat} (h : y / 281474976710656 = 0) (hb : b < 256) : (lN y <<< ((8 : Int32).toInt64 &&& 63)) ||| ((nI b).toInt64) = lN (y * 256 + b) := by
  have : y < 281474976710656 := by
    rcases Nat.div_eq_zero_iff.mp h with z | z
    · cases z
    · exact z
  rw [g_shl (k := 8) (p := 256) (by decide +kernel) (by decide) (by decide) (by omega), nI_l (by omega), g_or (k := 8) (p := 256) (by decide) hb (by omega)]
