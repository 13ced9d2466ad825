--deps:19.lay 21.facts 22.00.names 22.01.eq 22.02.eq 22.03.eq 22.04.eq 22.05.eq 22.06.eq 22.07.eq 22.08.eq 22.09.eq 22.10.eq 22.11.eq 22.12.eq 22.13.eq 22.14.eq 22.15.eq 22.16.eq 22.17.eq 22.18.eq 22.19.eq 22.20.eq 22.21.eq 22.22.eq 22.23.eq 23.num 24.town 25.evc 26.evm 27.law 28.says 29.inv 30.api1 31.copy 49.image 66.script 67.law 68.inits 69.init2 70.init3 97.text 98.text2 99.init4
/-! THE BEGINNING; the law -/
set_option linter.unusedSectionVars false
def l0 : List (Nat × Nat × Nat × Nat) := [(0, 11, 7, 0)] ++ (oi8 8 9 ++ ([(0, 12, 33, 0)] ++ oiX))
def l1 : List (Nat × Nat × Nat × Nat) := l0 ++ [(3, 68, 30, 0), (3, 68, 31, 0), (3, 68, 32, 0), (3, 68, 33, 0)]
def smL : List (Nat × Nat × Nat × Nat) → Nat
  | [] => 0
  | o :: l => (match o.1 with
    | 0 => o.2.2.1
    | _ => 0) + smL l
theorem mS_ops : ∀ (l : List (Nat × Nat × Nat × Nat)) (h : MH), mS (opsH h l) = mS h + smL l := by
  intro l
  induction l with
  | nil => intro h; rfl
  | cons o l ih =>
    intro h
    rw [opsH, ih, smL, ← Nat.add_assoc]
    congr 1
    obtain ⟨t, x, y, z⟩ := o
    match t with
    | 0 => rfl
    | 1 => rfl
    | 2 => rfl
    | _ + 3 => rfl
theorem q_al : ∀ a, a < 84 → ((alL 8 l1 a).getD (x0k a, x0l 0 a)).1 = cKD a ∧ (1 < a → ((alL 8 l1 a).getD (x0k a, x0l 0 a)).2 = cLN a) := by decide +kernel
theorem q_R : ∀ q ∈ cRF, rdR 8 l1 q.1 q.2.1 (x0r q.1 q.2.1) = q.2.2 := by decide +kernel
theorem q_cn : cnA l1 = 76 ∧ smL l1 ≤ 60000 := by decide +kernel
theorem q_68 : ∀ k, k < 1498 → rdI 8 l1 68 k 0 = if k = 7 then 349 else if k = 3 ∨ 30 ≤ k ∧ k < 34 then -1 else 0 := by decide +kernel
section ST
variable (L : Nat) (xs : Nat → Int32)
theorem s_al (a : Nat) : (kd (opsH (mh0 L xs) l1) a, ln (opsH (mh0 L xs) l1) a) = (alL 8 l1 a).getD (x0k a, x0l L a) := al_ops a l1 (mh0 L xs)
theorem s_I (a k : Nat) : gI (opsH (mh0 L xs) l1) a k = rdI 8 l1 a k (x0v xs a k) := rd_I a k l1 (mh0 L xs)
theorem s_R (a k : Nat) : gR (opsH (mh0 L xs) l1) a k = rdR 8 l1 a k (x0r a k) := rd_R a k l1 (mh0 L xs)
theorem s_old {a : Nat} (h : noW a l1 = true) (h2 : alL 8 l1 a = none) : gI (opsH (mh0 L xs) l1) a = x0v xs a := by
  funext k
  rw [s_I, rdI_no l1 8 _ h, h2]
  rfl
theorem s_zero {a : Nat} (h : noW a l1 = true) (h2 : (alL 8 l1 a).isSome = true) : ∀ k, gI (opsH (mh0 L xs) l1) a k = 0 := by
  intro k
  rw [s_I, rdI_no l1 8 _ h, if_pos h2]
theorem s_lay : lay (opsH (mh0 L xs) l1) := by
  refine ⟨?_, fun a ha => ?_, fun a h1 ha => ?_, fun q hq => ?_, ?_⟩
  · rw [mN_ops, q_cn.1]; show 84 ≤ 8 + 76; omega
  · have e := congrArg Prod.fst (s_al L xs a)
    have q := (q_al a ha).1
    cases h : alL 8 l1 a with
    | none => rw [h] at e q; exact e.trans q
    | some v => rw [h] at e q; exact e.trans q
  · have e := congrArg Prod.snd (s_al L xs a)
    have q := (q_al a ha).2 h1
    cases h : alL 8 l1 a with
    | none =>
      rw [h] at e q
      refine e.trans (Eq.trans ?_ q)
      show x0l L a = x0l 0 a
      unfold x0l
      split
      · omega
      · rfl
      · rfl
      · rfl
      · rfl
      · rfl
    | some v => rw [h] at e q; exact e.trans q
  · rw [s_R]; exact q_R q hq
  · rw [s_old L xs (a := 2) (by decide +kernel) (by decide +kernel), s_old L xs (a := 3) (by decide +kernel) (by decide +kernel), s_old L xs (a := 6) (by decide +kernel) (by decide +kernel), s_old L xs (a := 7) (by decide +kernel) (by decide +kernel), s_old L xs (a := 4) (by decide +kernel) (by decide +kernel), s_old L xs (a := 5) (by decide +kernel) (by decide +kernel)]
    exact ⟨rfl, rfl, rfl, rfl, rfl, rfl⟩
end ST
