/-! TWO PROGRAMS: one instruction -/
abbrev MZ : Type := (Nat × ML × List Value × MH) ⊕ (Value × MH)
/-- an instruction of the one program, read for the other -/
def tau (i : MI) : MI := match i with
  | (pc, ins, x, y, sw, a, b, c, d, e) => match ins with
    | .getfield _ => (pc, ins, x, y, sw, a, sl (a + 1) b, c, d, e)
    | _ => (pc, ins, x, y, sw, a, b, c, d, e)
/-- an instruction that both do alike -/
def lsk (ok : Nat → Bool) (i : MI) : Bool := match i with
  | (_, ins, _, _, _, a, b, c, d, _) => match ins with
    | .ldc _ => Nat.beq b 0 || Nat.blt a 8
    | .getstatic _ => !(Nat.beq b 0) || Nat.blt a 8
    | .getfield _ => !(Nat.beq a 10) || (Nat.beq c 2 && !(Nat.beq b 5))
    | .putfield _ => !(Nat.beq a 10)
    | .new _ => !(Nat.beq a 10)
    | .newarray _ => !(Nat.beq a 11)
    | .invokestatic _ => match d with
      | 0 => ok a
      | _ => true
    | .invokevirtual _ => match d with
      | 3 => true
      | _ => ok a
    | .invokespecial _ => match d with
      | 2 => true
      | _ => ok a
    | _ => true
def Rz (m : MU) (z z' : MZ) : Prop := match z with
  | .inl q => ∃ ls' st' g, z' = .inl (q.1, ls', st', g) ∧ SS m q.2.2.2 g ∧ Rl m q.2.1 ls' ∧ Rs m q.2.2.1 st'
  | .inr r => ∃ v' g, z' = .inr (v', g) ∧ SS m r.2 g ∧ Rv m r.1 v'
def Rq (m : MU) (z : MZ) (o : MO) : Prop := ∃ m' z', o = some z' ∧ ml m m' ∧ Rz m' z z'
def SE (ok : Nat → Bool) (ev ev' : ME) : Prop := ∀ (y : Nat) (as as' : List Value) (h g : MH) (v : Value) (h' : MH) (m : MU), ok y = true → ev y as h = some (v, h') → SS m h g → Rs m as as' → ∃ m' v' g', ev' y as' g = some (v', g') ∧ ml m m' ∧ SS m' h' g' ∧ Rv m' v v'
theorem mck_pos {c : Prop} {o : MO} (hc : c) : mck c o = o := by unfold mck; rw [if_pos hc]
theorem Rv_i {m : MU} {x : Int32} : Rv m (.int x) (.int x) := rfl
theorem Rv_l {m : MU} {x : Int64} : Rv m (.long x) (.long x) := rfl
theorem Rv_a {m : MU} {x : Nat} : Rv m (.retAddr x) (.retAddr x) := rfl
theorem Rv_r {m : MU} {a b : Nat} (e : m a = some b) : Rv m (.ref a) (.ref b) := ⟨b, rfl, e⟩
section ST
variable {m : MU} {h g : MH} {z : MZ} {k : Nat} {ls ls' : ML} {st st' : List Value}
theorem q_nx' {m' : MU} (e : ml m m') (S : SS m' h g) (L : Rl m' ls ls') (R : Rs m' st st') (hs : nx k ls st h = some z) : Rq m z (nx k ls' st' g) := by
  unfold nx at hs
  cases hs
  exact ⟨m', _, rfl, e, ls', st', g, rfl, S, L, R⟩
theorem q_nx (S : SS m h g) (L : Rl m ls ls') (R : Rs m st st') (hs : nx k ls st h = some z) : Rq m z (nx k ls' st' g) := q_nx' ml_rf S L R hs
theorem q_ck {c c' : Prop} {o o' : MO} (hs : mck c o = some z) (hc : c → c') (ho : c → o = some z → Rq m z o') : Rq m z (mck c' o') := by
  obtain ⟨h1, h2⟩ := mck_some hs
  rw [mck_pos (hc h1)]
  exact ho h1 h2
theorem q_cnx {c c' : Prop} (hs : mck c (nx k ls st h) = some z) (hc : c → c') (S : SS m h g) (L : Rl m ls ls') (R : Rs m st st') : Rq m z (mck c' (nx k ls' st' g)) := q_ck hs hc fun _ e => q_nx S L R e
theorem q_s1 {i : Nat} {v v' : Value} (S : SS m h g) (L : Rl m ls ls') (R : Rs m st st') (rv : Rv m v v') (hs : mst1 ls i v k st h = some z) : Rq m z (mst1 ls' i v' k st' g) := by
  obtain ⟨h1, h2⟩ := mst1_some hs
  unfold mst1
  rw [Rl_mok L, Rl_len L, h1]
  exact q_nx S (Rl_set rv L i) R h2
theorem q_s2 {i : Nat} {v v' : Value} (S : SS m h g) (L : Rl m ls ls') (R : Rs m st st') (rv : Rv m v v') (hs : mst2 ls i v k st h = some z) : Rq m z (mst2 ls' i v' k st' g) := by
  obtain ⟨h1, h2⟩ := mst2_some hs
  unfold mst2
  rw [Rl_mok L, Rl_len L, h1]
  exact q_nx S (Rl_sen (Rl_set rv L i) _) R h2
theorem q_br {c c' : Prop} {d : Decidable c} {d' : Decidable c'} {t : Nat} (hc : c' ↔ c) (S : SS m h g) (L : Rl m ls ls') (R : Rs m st st') (hs : mbr c d t k ls st h = some z) : Rq m z (mbr c' d' t k ls' st' g) := by
  unfold mbr at hs ⊢
  by_cases q : c
  · rw [if_pos q] at hs
    rw [if_pos (hc.mpr q)]
    exact q_nx S L R hs
  · rw [if_neg q] at hs
    rw [if_neg (fun w => q (hc.mp w))]
    exact q_nx S L R hs
theorem Rv_fv (S : SS m h g) {r r' a b c : Nat} (e : m r = some r') (hk : kd h r = a + 1) (hl : (!(Nat.beq a 10) || (Nat.beq c 2 && !(Nat.beq b 5))) = true) : Rv m (fv h r c b) (fv g r' c (sl (a + 1) b)) := by
  have C := SS_c S e
  by_cases z : a = 10
  · subst z
    simp only [Nat.beq_eq_true_eq, Bool.or_eq_true, Bool.and_eq_true, Bool.not_eq_true', Nat.beq_refl] at hl
    have hl : c = 2 ∧ ¬ b = 5 := by
      rcases hl with q | ⟨q1, q2⟩
      · cases q
      · exact ⟨Nat.eq_of_beq_eq_true q1, fun q => by rw [q] at q2; cases q2⟩
    obtain ⟨rfl, hb⟩ := hl
    refine ⟨_, rfl, ?_⟩
    have := C.2.2.1 b (fun q => hb q.2)
    rwa [hk] at this
  · rw [sl_ne (by omega)]
    match c with
    | 0 => show fv g r' 0 b = .int (gI h r b); rw [← C.2.1.1]; rfl
    | 1 => show fv g r' 1 b = .long (gL h r b); rw [← C.2.1.2]; rfl
    | 2 => exact ⟨_, rfl, SS_gR S e b (by omega)⟩
    | c + 3 => show fv g r' (c + 3) b = .int (gI h r b); rw [← C.2.1.1]; rfl
theorem q_cl {ev ev' : ME} {ok : Nat → Bool} (he : SE ok ev ev') {y rk : Nat} {as as' : List Value} (hy : ok y = true) (S : SS m h g) (L : Rl m ls ls') (R : Rs m st st') (A : Rs m as as') (hs : mcl (ev y as h) rk k ls st = some z) : Rq m z (mcl (ev' y as' g) rk k ls' st') := by
  cases ho : ev y as h with
  | none =>
    rw [ho] at hs
    unfold mcl at hs
    split at hs <;> cases hs
  | some p =>
    obtain ⟨v, h1⟩ := p
    obtain ⟨m', v', g', e1, e2, e3, e4⟩ := he y as as' h g v h1 m hy ho S A
    rw [ho] at hs
    rw [e1]
    have L' := Rl_ml e2 L
    have R' := Rs_ml e2 R
    match rk with
    | 0 => exact q_nx' e2 e3 L' R' hs
    | 1 =>
      cases v with
      | int x => have e4 : v' = _ := e4; subst e4; exact q_nx' e2 e3 L' (Rs_ci R') hs
      | _ => cases hs
    | 2 =>
      cases v with
      | long x => have e4 : v' = _ := e4; subst e4; exact q_nx' e2 e3 L' (Rs_cl R') hs
      | _ => cases hs
    | rk + 3 =>
      cases v with
      | ref x => obtain ⟨b, q1, q2⟩ := e4; subst q1; exact q_nx' e2 e3 L' (Rs_cr q2 R') hs
      | _ => cases hs
theorem q_call {ev ev' : ME} {ok : Nat → Bool} (he : SE ok ev ev') {i : MI} (hy : ok i.2.2.2.2.2.1 = true) (S : SS m h g) (L : Rl m ls ls') (R : Rs m st st') (hs : mcall i k ls st h ev = some z) : Rq m z (mcall i k ls' st' g ev') := by
  obtain ⟨pc, ins, x, y, sw, a, b, c, d, e⟩ := i
  unfold mcall at hs ⊢
  dsimp only at hs ⊢ hy
  rw [Rs_len R, Rs_w (Rs_drop b R)]
  split at hs
  · exact q_cl he hy S L (Rs_drop b R) (Rs_tk b R) hs
  · cases hs
theorem q_callv {ev ev' : ME} {ok : Nat → Bool} (he : SE ok ev ev') {i : MI} (hy : ok i.2.2.2.2.2.1 = true) (S : SS m h g) (L : Rl m ls ls') (R : Rs m st st') (hs : mcallv i k ls st h ev = some z) : Rq m z (mcallv i k ls' st' g ev') := by
  obtain ⟨pc, ins, x, y, sw, a, b, c, d, e⟩ := i
  unfold mcallv at hs ⊢
  dsimp only at hs ⊢
  have T := Rs_tk b R
  revert T hs
  generalize mtk st b = u
  generalize mtk st' b = u'
  intro hs T
  cases u with
  | nil => cases hs
  | cons v u =>
    cases v with
    | ref r =>
      obtain ⟨r', l', rfl, e1, -⟩ := Rs_r T
      exact q_ck hs (fun q => (SS_kd S e1).trans q) fun _ e2 => q_call he hy S L R e2
    | _ => cases hs
theorem q_copy (S : SS m h g) (L : Rl m ls ls') (R : Rs m st st') (hs : mcopy k ls st h = some z) : Rq m z (mcopy k ls' st' g) := by
  unfold mcopy at hs
  split at hs
  · (replace R := Rs_i R; obtain ⟨_, rfl, R⟩ := R)
    (replace R := Rs_i R; obtain ⟨_, rfl, R⟩ := R)
    (replace R := Rs_r R; obtain ⟨d', _, rfl, ed, R⟩ := R)
    (replace R := Rs_i R; obtain ⟨_, rfl, R⟩ := R)
    (replace R := Rs_r R; obtain ⟨s', w, rfl, es, R⟩ := R)
    unfold mcopy
    dsimp only
    rw [Rs_w R]
    split at hs
    · refine q_ck hs (fun q => by rw [SS_kd S ed, SS_kd S es, SS_ln S ed, SS_ln S es]; exact q) fun _ e2 => ?_
      rw [SS_gI S es, SS_gI S ed]
      exact q_nx (SS_rI S ed _) L R e2
    · cases hs
  · cases hs
theorem q_clone (S : SS m h g) (L : Rl m ls ls') (R : Rs m st st') (hs : mclone k ls st h = some z) : Rq m z (mclone k ls' st' g) := by
  unfold mclone at hs
  split at hs
  · (replace R := Rs_r R; obtain ⟨r', w, rfl, er, R⟩ := R)
    unfold mclone
    dsimp only
    rw [Rs_w R]
    split at hs
    · refine q_ck hs (fun q => (SS_kd S er).trans q) fun _ e2 => ?_
      rw [SS_gI S er, SS_ln S er]
      exact q_nx' (SS_ml S) (SS_rI (SS_mA S (by decide)) (mup_s _ _ _) _) (Rl_ml (SS_ml S) L) (Rs_cr (mup_s _ _ _) (Rs_ml (SS_ml S) R)) e2
    · cases hs
  · cases hs
theorem q_math {d : Nat} (S : SS m h g) (L : Rl m ls ls') (R : Rs m st st') (hs : mmath d k ls st h = some z) : Rq m z (mmath d k ls' st' g) := by
  unfold mmath at hs ⊢
  split at hs
  · split at hs
    · (replace R := Rs_i R; obtain ⟨_, rfl, R⟩ := R)
      dsimp only
      rw [Rs_w R]
      split at hs
      · exact q_nx S L (Rs_ci R) hs
      · cases hs
    · cases hs
  · split at hs
    · (replace R := Rs_i R; obtain ⟨_, rfl, R⟩ := R)
      (replace R := Rs_i R; obtain ⟨_, rfl, R⟩ := R)
      dsimp only
      rw [Rs_w R]
      split at hs
      · exact q_nx S L (Rs_ci R) hs
      · cases hs
    · cases hs
  · split at hs
    · (replace R := Rs_i R; obtain ⟨_, rfl, R⟩ := R)
      (replace R := Rs_i R; obtain ⟨_, rfl, R⟩ := R)
      dsimp only
      rw [Rs_w R]
      split at hs
      · exact q_nx S L (Rs_ci R) hs
      · cases hs
    · cases hs
end ST
set_option maxHeartbeats 8000000 in
theorem sim_st {ok : Nat → Bool} {ev ev' : ME} {i : MI} {k : Nat} {ls ls' : ML} {st st' : List Value} {h g : MH} {m : MU} {z : MZ} (he : SE ok ev ev') (hi : lsk ok i = true) (S : SS m h g) (L : Rl m ls ls') (R : Rs m st st') (hs : mst i k ls st h ev = some z) : Rq m z (mst (tau i) k ls' st' g ev') := by
  obtain ⟨pc, ins, x, y, sw, a, b, c, d, e⟩ := i
  cases ins
  case ldc n =>
    simp only [lsk] at hi
    simp only [mst] at hs
    simp only [tau, mst]
    split at hs
    · exact q_nx S L (Rs_ci R) hs
    · rename_i hb
      have ha : a < 8 := by
        rw [Bool.or_eq_true] at hi
        rcases hi with q | q
        · exact absurd (Nat.eq_of_beq_eq_true q) hb
        · simpa [Nat.blt_eq] using q
      exact q_nx S L (Rs_cr (S.1.1 a ha) R) hs
  case getstatic n =>
    simp only [lsk] at hi
    simp only [mst] at hs
    simp only [tau, mst]
    split at hs
    · have ha : a < 8 := by
        rw [Bool.or_eq_true] at hi
        rcases hi with q | q
        · cases q
        · simpa [Nat.blt_eq] using q
      exact q_nx S L (Rs_cr (S.1.1 a ha) R) hs
    · exact q_nx S L (Rs_ci R) hs
    · exact q_nx S L (Rs_cv Rv_a R) hs
  case aconst_null => exact q_nx S L (Rs_cr (SS_0 S) R) hs
  case iload_n n =>
    simp only [mst] at hs
    simp only [tau, mst]
    rcases Rl_at L a with ⟨e1, e2⟩ | ⟨e1, e2⟩ | ⟨v, w, e1, e2, r⟩ <;> rw [e1] at hs <;> (try (cases hs; done))
    rw [e2]
    cases v <;> (try (cases hs; done))
    have r : w = _ := r
    subst r
    exact q_nx S L (Rs_ci R) hs
  case iload n =>
    simp only [mst] at hs
    simp only [tau, mst]
    rcases Rl_at L a with ⟨e1, e2⟩ | ⟨e1, e2⟩ | ⟨v, w, e1, e2, r⟩ <;> rw [e1] at hs <;> (try (cases hs; done))
    rw [e2]
    cases v <;> (try (cases hs; done))
    have r : w = _ := r
    subst r
    exact q_nx S L (Rs_ci R) hs
  case lload_n n =>
    simp only [mst] at hs
    simp only [tau, mst]
    rcases Rl_at L a with ⟨e1, e2⟩ | ⟨e1, e2⟩ | ⟨v, w, e1, e2, r⟩ <;> rw [e1] at hs <;> (try (cases hs; done))
    rw [e2]
    cases v <;> (try (cases hs; done))
    have r : w = _ := r
    subst r
    exact q_nx S L (Rs_cl R) hs
  case lload n =>
    simp only [mst] at hs
    simp only [tau, mst]
    rcases Rl_at L a with ⟨e1, e2⟩ | ⟨e1, e2⟩ | ⟨v, w, e1, e2, r⟩ <;> rw [e1] at hs <;> (try (cases hs; done))
    rw [e2]
    cases v <;> (try (cases hs; done))
    have r : w = _ := r
    subst r
    exact q_nx S L (Rs_cl R) hs
  case aload_n n =>
    simp only [mst] at hs
    simp only [tau, mst]
    rcases Rl_at L a with ⟨e1, e2⟩ | ⟨e1, e2⟩ | ⟨v, w, e1, e2, r⟩ <;> rw [e1] at hs <;> (try (cases hs; done))
    rw [e2]
    cases v <;> (try (cases hs; done))
    obtain ⟨b', q1, q2⟩ := r
    subst q1
    exact q_nx S L (Rs_cr q2 R) hs
  case aload n =>
    simp only [mst] at hs
    simp only [tau, mst]
    rcases Rl_at L a with ⟨e1, e2⟩ | ⟨e1, e2⟩ | ⟨v, w, e1, e2, r⟩ <;> rw [e1] at hs <;> (try (cases hs; done))
    rw [e2]
    cases v <;> (try (cases hs; done))
    obtain ⟨b', q1, q2⟩ := r
    subst q1
    exact q_nx S L (Rs_cr q2 R) hs
  case iinc n n' =>
    simp only [mst] at hs
    simp only [tau, mst]
    rcases Rl_at L a with ⟨e1, e2⟩ | ⟨e1, e2⟩ | ⟨v, w, e1, e2, r⟩ <;> rw [e1] at hs <;> (try (cases hs; done))
    rw [e2]
    cases v <;> (try (cases hs; done))
    have r : w = _ := r
    subst r
    exact q_s1 S L R Rv_i hs
  case getfield n =>
    simp only [lsk] at hi
    simp only [mst] at hs
    simp only [tau, mst]
    split at hs
    · (replace R := Rs_r R; obtain ⟨r', w, rfl, er, R⟩ := R)
      exact q_ck hs (fun q => (SS_kd S er).trans q) fun hk e2 => q_nx S L (Rs_cv (Rv_fv S er hk hi) R) e2
    · cases hs
  case putfield n =>
    simp only [lsk] at hi
    have ha : ¬ a = 10 := fun q => by rw [q] at hi; cases hi
    simp only [mst] at hs
    simp only [tau, mst]
    split at hs
    · split at hs
      · (replace R := Rs_i R; obtain ⟨_, rfl, R⟩ := R)
        (replace R := Rs_r R; obtain ⟨r', w, rfl, er, R⟩ := R)
        exact q_ck hs (fun q => (SS_kd S er).trans q) fun hk e2 => q_nx (SS_sI S er _ _) L R e2
      · cases hs
    · split at hs
      · (replace R := Rs_l R; obtain ⟨_, rfl, R⟩ := R)
        (replace R := Rs_r R; obtain ⟨r', w, rfl, er, R⟩ := R)
        exact q_ck hs (fun q => (SS_kd S er).trans q) fun hk e2 => q_nx (SS_sL S er _ _) L R e2
      · cases hs
    · split at hs
      · (replace R := Rs_r R; obtain ⟨v', _, rfl, ev, R⟩ := R)
        (replace R := Rs_r R; obtain ⟨r', w, rfl, er, R⟩ := R)
        exact q_ck hs (fun q => (SS_kd S er).trans q) fun hk e2 => q_nx (SS_sR S er (by omega) _ ev) L R e2
      · cases hs
    · split at hs
      · (replace R := Rs_i R; obtain ⟨_, rfl, R⟩ := R)
        (replace R := Rs_r R; obtain ⟨r', w, rfl, er, R⟩ := R)
        exact q_ck hs (fun q => ⟨(SS_kd S er).trans q.1, q.2⟩) fun hk e2 => q_nx (SS_sI S er _ _) L R e2
      · cases hs
  case new n =>
    simp only [lsk] at hi
    have ha : ¬ a + 1 = 11 := fun q => by rw [show a = 10 by omega] at hi; cases hi
    simp only [mst] at hs
    simp only [tau, mst]
    exact q_nx' (SS_ml S) (SS_mA S ha) (Rl_ml (SS_ml S) L) (Rs_cr (mup_s _ _ _) (Rs_ml (SS_ml S) R)) hs
  case newarray n =>
    simp only [lsk] at hi
    have ha : ¬ a = 11 := fun q => by rw [q] at hi; cases hi
    simp only [mst] at hs
    simp only [tau, mst]
    split at hs
    · (replace R := Rs_i R; obtain ⟨_, rfl, R⟩ := R)
      exact q_ck hs (fun q => q) fun _ e2 => q_nx' (SS_ml S) (SS_mA S ha) (Rl_ml (SS_ml S) L) (Rs_cr (mup_s _ _ _) (Rs_ml (SS_ml S) R)) e2
    · cases hs
  case anewarray n =>
    simp only [mst] at hs
    simp only [tau, mst]
    split at hs
    · (replace R := Rs_i R; obtain ⟨_, rfl, R⟩ := R)
      exact q_ck hs (fun q => q) fun _ e2 => q_nx' (SS_ml S) (SS_mA S (by decide)) (Rl_ml (SS_ml S) L) (Rs_cr (mup_s _ _ _) (Rs_ml (SS_ml S) R)) e2
    · cases hs
  case arraylength =>
    simp only [mst] at hs
    simp only [tau, mst]
    split at hs
    · (replace R := Rs_r R; obtain ⟨r', w, rfl, er, R⟩ := R)
      dsimp only
      rw [SS_kd S er, SS_ln S er]
      exact q_cnx hs (fun q => q) S L (Rs_ci R)
    · cases hs
  case iaload =>
    simp only [mst] at hs
    simp only [tau, mst]
    split at hs
    · (replace R := Rs_i R; obtain ⟨_, rfl, R⟩ := R)
      (replace R := Rs_r R; obtain ⟨r', w, rfl, er, R⟩ := R)
      dsimp only
      rw [SS_kd S er, SS_ln S er, SS_gI S er]
      exact q_cnx hs (fun q => q) S L (Rs_ci R)
    · cases hs
  case baload =>
    simp only [mst] at hs
    simp only [tau, mst]
    split at hs
    · (replace R := Rs_i R; obtain ⟨_, rfl, R⟩ := R)
      (replace R := Rs_r R; obtain ⟨r', w, rfl, er, R⟩ := R)
      dsimp only
      rw [SS_kd S er, SS_ln S er, SS_gI S er]
      exact q_cnx hs (fun q => q) S L (Rs_ci R)
    · cases hs
  case laload =>
    simp only [mst] at hs
    simp only [tau, mst]
    split at hs
    · (replace R := Rs_i R; obtain ⟨_, rfl, R⟩ := R)
      (replace R := Rs_r R; obtain ⟨r', w, rfl, er, R⟩ := R)
      dsimp only
      rw [SS_kd S er, SS_ln S er, SS_gL S er]
      exact q_cnx hs (fun q => q) S L (Rs_cl R)
    · cases hs
  case aaload =>
    simp only [mst] at hs
    simp only [tau, mst]
    split at hs
    · (replace R := Rs_i R; obtain ⟨_, rfl, R⟩ := R)
      (replace R := Rs_r R; obtain ⟨r', w, rfl, er, R⟩ := R)
      dsimp only
      rw [SS_kd S er, SS_ln S er]
      exact q_ck hs (fun q => q) fun q e2 => q_nx S L (Rs_cr (SS_gR S er _ (by omega)) R) e2
    · cases hs
  case iastore =>
    simp only [mst] at hs
    simp only [tau, mst]
    split at hs
    · (replace R := Rs_i R; obtain ⟨_, rfl, R⟩ := R)
      (replace R := Rs_i R; obtain ⟨_, rfl, R⟩ := R)
      (replace R := Rs_r R; obtain ⟨r', w, rfl, er, R⟩ := R)
      dsimp only
      rw [SS_kd S er, SS_ln S er]
      exact q_cnx hs (fun q => q) (SS_sI S er _ _) L R
    · cases hs
  case bastore =>
    simp only [mst] at hs
    simp only [tau, mst]
    split at hs
    · (replace R := Rs_i R; obtain ⟨_, rfl, R⟩ := R)
      (replace R := Rs_i R; obtain ⟨_, rfl, R⟩ := R)
      (replace R := Rs_r R; obtain ⟨r', w, rfl, er, R⟩ := R)
      dsimp only
      rw [SS_kd S er, SS_ln S er]
      exact q_cnx hs (fun q => q) (SS_sI S er _ _) L R
    · cases hs
  case lastore =>
    simp only [mst] at hs
    simp only [tau, mst]
    split at hs
    · (replace R := Rs_l R; obtain ⟨_, rfl, R⟩ := R)
      (replace R := Rs_i R; obtain ⟨_, rfl, R⟩ := R)
      (replace R := Rs_r R; obtain ⟨r', w, rfl, er, R⟩ := R)
      dsimp only
      rw [SS_kd S er, SS_ln S er]
      exact q_cnx hs (fun q => q) (SS_sL S er _ _) L R
    · cases hs
  case aastore =>
    simp only [mst] at hs
    simp only [tau, mst]
    split at hs
    · (replace R := Rs_r R; obtain ⟨v', _, rfl, ev, R⟩ := R)
      (replace R := Rs_i R; obtain ⟨_, rfl, R⟩ := R)
      (replace R := Rs_r R; obtain ⟨r', w, rfl, er, R⟩ := R)
      dsimp only
      rw [SS_kd S er, SS_ln S er, SS_kd S ev]
      exact q_ck hs (fun q => ⟨q.1, q.2.1, q.2.2.imp (fun w => (SS_z S ev).mpr w) (fun w => w)⟩) fun q e2 => q_nx (SS_sR S er (by omega) _ ev) L R e2
    · cases hs
  case checkcast n =>
    simp only [mst] at hs
    simp only [tau, mst]
    split at hs
    · (replace R := Rs_r R; obtain ⟨r', w, rfl, er, R⟩ := R)
      dsimp only
      rw [SS_kd S er]
      exact q_cnx hs (fun q => q) S L (Rs_cr er R)
    · cases hs
  case ifnull n =>
    simp only [mst] at hs
    simp only [tau, mst]
    split at hs
    · (replace R := Rs_r R; obtain ⟨r', w, rfl, er, R⟩ := R)
      exact q_br (SS_z S er) S L R hs
    · cases hs
  case ifnonnull n =>
    simp only [mst] at hs
    simp only [tau, mst]
    split at hs
    · (replace R := Rs_r R; obtain ⟨r', w, rfl, er, R⟩ := R)
      exact q_br (SS_z S er) S L R hs
    · cases hs
  case invokestatic n =>
    simp only [lsk] at hi
    simp only [mst] at hs
    simp only [tau, mst]
    split at hs
    · exact q_copy S L R hs
    · exact q_call he hi S L R hs
    · exact q_math S L R hs
  case invokevirtual n =>
    simp only [lsk] at hi
    simp only [mst] at hs
    simp only [tau, mst]
    split at hs
    · exact q_clone S L R hs
    · rename_i hd
      refine q_callv he ?_ S L R hs
      first
        | exact hi
        | (split at hi
           · exact absurd rfl hd
           · exact hi)
  case invokespecial n =>
    simp only [lsk] at hi
    simp only [mst] at hs
    simp only [tau, mst]
    split at hs
    · split at hs
      · (replace R := Rs_r R; obtain ⟨r', w, rfl, er, R⟩ := R)
        dsimp only
        rw [Rs_w R]
        split at hs
        · exact q_cnx hs (fun q w => q ((SS_z S er).mp w)) S L R
        · cases hs
      · cases hs
    · rename_i hd
      refine q_callv he ?_ S L R hs
      first
        | exact hi
        | (split at hi
           · exact absurd rfl hd
           · exact hi)
  case ireturn =>
    simp only [mst] at hs
    simp only [tau, mst]
    split at hs
    · (replace R := Rs_i R; obtain ⟨_, rfl, R⟩ := R)
      obtain rfl := Rs_n R
      exact q_ck hs (fun q => q) fun _ e2 => by
        cases e2
        exact ⟨m, _, rfl, ml_rf, _, g, rfl, S, rfl⟩
    · cases hs
  case lreturn =>
    simp only [mst] at hs
    simp only [tau, mst]
    split at hs
    · (replace R := Rs_l R; obtain ⟨_, rfl, R⟩ := R)
      obtain rfl := Rs_n R
      cases hs
      exact ⟨m, _, rfl, ml_rf, _, g, rfl, S, rfl⟩
    · cases hs
  case areturn =>
    simp only [mst] at hs
    simp only [tau, mst]
    split at hs
    · (replace R := Rs_r R; obtain ⟨r', w, rfl, er, R⟩ := R)
      obtain rfl := Rs_n R
      cases hs
      exact ⟨m, _, rfl, ml_rf, _, g, rfl, S, ⟨r', rfl, er⟩⟩
    · cases hs
  case return_ =>
    simp only [mst] at hs
    simp only [tau, mst]
    split at hs
    · obtain rfl := Rs_n R
      cases hs
      exact ⟨m, _, rfl, ml_rf, _, g, rfl, S, rfl⟩
    · cases hs
  all_goals (simp only [mst] at hs <;> (try (cases hs; done)) <;> simp only [tau, mst] <;> (repeat' (split at hs)) <;> (try (cases hs; done)) <;> (repeat (first
    | ((replace R := Rs_i R; obtain ⟨_, rfl, R⟩ := R))
    | ((replace R := Rs_l R; obtain ⟨_, rfl, R⟩ := R))
    | ((replace R := Rs_r R; obtain ⟨_, _, rfl, _, R⟩ := R)))) <;> first
    | (refine q_nx S L ?_ hs; (repeat (first | exact R | apply Rs_ci | apply Rs_cl | refine Rs_cr (by assumption) ?_)); done)
    | (refine q_cnx hs (fun q => q) S L ?_; (repeat (first | exact R | apply Rs_ci | apply Rs_cl | refine Rs_cr (by assumption) ?_)); done)
    | exact q_s1 S L R Rv_i hs
    | exact q_s2 S L R Rv_l hs
    | exact q_s1 S L R (Rv_r (by assumption)) hs
    | exact q_br Iff.rfl S L R hs)
