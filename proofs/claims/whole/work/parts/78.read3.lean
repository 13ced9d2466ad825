--deps:19.lay 21.facts 22.00.names 22.01.eq 22.02.eq 22.03.eq 22.04.eq 22.05.eq 22.06.eq 22.07.eq 22.08.eq 22.09.eq 22.10.eq 22.11.eq 22.12.eq 22.13.eq 22.14.eq 22.15.eq 22.16.eq 22.17.eq 22.18.eq 22.19.eq 22.20.eq 22.21.eq 22.22.eq 22.23.eq 23.num 24.town 25.evc 26.evm 27.law 28.says 29.inv 71.yard 72.yard2 73.gx 74.gx2 75.gx3 76.reader 77.read2
/-! THE CLASS'S READER: a one, a question, a choice -/
set_option linter.unusedSectionVars false
def cmpC (t : Nat) : Nat := bC (cmpO t)
def PCH (h : MH) (tk ts tv : Nat → Nat) (T : Nat) (f : Nat → Int32) (sl : Bool) (o : Nat) : Prop := ∀ D p cl g, 7 * (8 - o) + 9 ≤ D → p ≤ T → cl ≤ p → CR h ts T f p cl g (fun n k m v q => GX false (NN sl) (5 * (8 - o) + 6) n k m v ∧ CHO tk tv sl o p m q) (fun fl q => NOO tk tv sl (AC o) o p fl q) (F_X4_choice D (nI o) (RD h (fset f p cl) g))
theorem cmpO_bd {t : Nat} (h : ¬ cmpO t = 0) : 10 ≤ cmpO t ∧ cmpO t ≤ 15 := by
  unfold cmpO at *
  split
  · omega
  · split
    · omega
    · split
      · omega
      · split
        · omega
        · split
          · omega
          · split
            · omega
            · rename_i h1 h2 h3 h4 h5 h6
              rw [if_neg h1, if_neg h2, if_neg h3, if_neg h4, if_neg h5, if_neg h6] at h
              exact absurd rfl h
theorem uo_cs {t : Nat} (h : ¬ uo t = 0) : t = 40 ∨ t = 45 ∨ t = 315 ∨ t = 316 ∨ t = 317 := by
  unfold uo at h
  by_cases z1 : t = 40
  · exact Or.inl z1
  by_cases z2 : t = 45
  · exact Or.inr (Or.inl z2)
  by_cases z3 : t = 315
  · exact Or.inr (Or.inr (Or.inl z3))
  by_cases z4 : t = 316
  · exact Or.inr (Or.inr (Or.inr (Or.inl z4)))
  by_cases z5 : t = 317
  · exact Or.inr (Or.inr (Or.inr (Or.inr z5)))
  rw [if_neg z1, if_neg z2, if_neg z3, if_neg z4, if_neg z5] at h
  exact absurd rfl h
theorem A9_60 {o : Nat} (ho : o ≤ 8) : ∀ π, A9 o π → π.length ≤ 60 := fun π a => by unfold A9 at a; omega
theorem A8_60 {o : Nat} (ho : o ≤ 8) : ∀ π, A8 o π → π.length ≤ 60 ∧ aah π := fun π a => ⟨by have := a.1; omega, a.2⟩
theorem sq1_lo {cl n op : Nat} {g0 g : Nat → Int32} (h1 : ∀ j, j < cl → g j = g0 j) : ∀ j, j < cl → va_up g (cl + n) (nI op) j = g0 j := by
  intro j hj
  rw [va_ne _ _ (by omega), h1 j hj]
theorem sq1_hi {cl n op : Nat} {k : Nat → Nat → Nat} {g : Nat → Int32} (h1 : ∀ j, j < n → g (cl + j) = nI (k cl j)) : ∀ j, j < n + 1 → va_up g (cl + n) (nI op) (cl + j) = nI (sq1 n k op cl j) := by
  intro j hj
  unfold sq1
  by_cases c1 : j < n
  · rw [if_pos c1, va_ne _ _ (by omega), h1 j c1]
  · rw [if_neg c1, show cl + j = cl + n by omega, va_same]
/-- the comparisons' operations -/
theorem r_cmp {D : Nat} (hD : 1 ≤ D) {t : Nat} (ht : t < 1000) (h1 : MH) (L : lay h1) : F_X4_comparison D (nI t) h1 = some (.int (if cmpO t = 0 then -1 else nI (cmpC t)), h1) := by
  obtain ⟨d, rfl⟩ : ∃ d, D = d + 1 := ⟨D - 1, by omega⟩
  rw [S_X4_comparison L]
  unfold cmpC cmpO
  by_cases c1 : t = 35
  · subst c1; rfl
  rw [if_neg (by rw [nIe (by omega) (by decide)]; exact c1)]
  by_cases c2 : t = 60
  · subst c2; rfl
  rw [if_neg (by rw [nIe (by omega) (by decide)]; exact c2)]
  by_cases c3 : t = 61
  · subst c3; rfl
  rw [if_neg (by rw [nIe (by omega) (by decide)]; exact c3)]
  by_cases c4 : t = 62
  · subst c4; rfl
  rw [if_neg (by rw [nIe (by omega) (by decide)]; exact c4)]
  by_cases c5 : t = 256
  · subst c5; rfl
  rw [if_neg (by rw [nIe (by omega) (by decide)]; exact c5)]
  by_cases c6 : t = 257
  · subst c6; rfl
  rw [if_neg (by rw [nIe (by omega) (by decide)]; exact c6), if_neg c2, if_neg c5, if_neg c4, if_neg c6, if_neg c3, if_neg c1, if_pos rfl]
section RDQ
theorem x_ask {h : MH} {tk : Nat → Nat} {ts : Nat → Nat} {tv : Nat → Nat} {T : Nat} {f : Nat → Int32} {sl : Bool} (X : RDX h tk ts tv T f sl) {o : Nat} (ho : o ≤ 8) (P1 : PLV h tk ts tv T f sl F_X4_sum 5 3 5 False A1 false tl1 o) (P2 : o < 8 → PLV h tk ts tv T f sl F_X4_ask 6 4 3 True A8 true tl1 (o + 1)) : PLV h tk ts tv T f sl F_X4_ask 6 4 3 True A8 true tl1 o := by
  intro D p cl g hD hp hcl
  obtain ⟨d, rfl⟩ : ∃ d, D = d + 1 := ⟨D - 1, by omega⟩
  have hT := X.2.1.1.1
  have htk := (X.2.1.2.1 p hp).2.2.2.1
  rw [S_X4_ask (lay_RD X.1 _ _), r_kind X (by omega) hp, cI_some]
  by_cases c0 : tk p = 323
  · obtain ⟨e, rfl⟩ : ∃ e, d = e + 1 := ⟨d - 1, by omega⟩
    rw [if_pos (by rw [c0]; rfl), S_X4_denial (lay_RD X.1 _ _)]
    by_cases c1 : o < 8
    · rw [if_pos (by rw [nIl (by omega) (by decide)]; exact c1), r_adv X (by omega) (lt_T X hp (by omega)), cV_some, nI_1]
      have hlt := lt_T X hp (by omega)
      rcases P2 c1 e (p + 1) cl g (by omega) (by omega) (by omega) with ⟨n2, k2, m2, v2, q2, g2, e2, ⟨b1, b2⟩, ⟨b3, b4⟩, b5, b6, b7⟩ | ⟨fl, q2, c2, g2, e2, ⟨b1, b2, b3, b4⟩, b5⟩
      · rw [e2, cI_some, r_emit X (by omega) (c := cl + n2) (by omega) g2 (show ((0 : Int32) <<< (5 &&& 31)) ||| 7 = nI (uC 20) from enc0 (op := uC 20) (by decide)), cI_some, ckm1, cI_some, ckm1, Nat.add_assoc]
        exact Or.inl ⟨n2 + 1, sq1 n2 k2 (uC 20), m2 ++ [(20, 0)], _, q2, _, rfl, ⟨b1, by omega⟩, ⟨sq1_lo b3, sq1_hi b4⟩, GX_mono (GX_not b5) (by omega), ask_not c0 c1 b6, b7⟩
      · obtain ⟨z, c', g', e3, hc'⟩ := r_emitF (X_flt X (nI fl) (nI (ts q2))) (D := e) (by omega) (p := q2) b2 g2 7 0
        rw [e2, cI_some, e3, cI_some, ckm0, cI_some, ckm0]
        exact Or.inr ⟨fl, q2, c', g', rfl, ⟨b1, hc', b3, b4⟩, no_nota c0 c1 b5⟩
    · rw [if_neg (by rw [nIl (by omega) (by decide)]; exact c1), r_ref X (by omega) hp, cI_some, ckm0, cI_some, ckm0]
      exact Or.inr ⟨3, p, cl, g, rfl, ⟨hp, by omega, by omega, by omega⟩, no_not (A8_60 ho) c0 (by omega)⟩
  rw [if_neg (by rw [nIe (by omega) (by decide)]; exact c0)]
  rcases P1 d p cl g (by omega) hp hcl with ⟨n, k, m, v, q, g1, e1, ⟨a1, a2⟩, ⟨a3, a4⟩, a5, a6, a7⟩ | ⟨fl, q2, c2, g2, e2, ⟨b1, b2, b3, b4⟩, b5⟩
  · have htq := (X.2.1.2.1 q a1).2.2.2.1
    rw [e1, cI_some, if_neg (by decide), r_kind X (by omega) a1, cI_some, r_cmp (by omega) htq _ (lay_RD X.1 _ _), cI_some]
    by_cases c1 : cmpO (tk q) = 0
    · rw [if_pos c1, if_pos rfl, r_ref X (by omega) a1, cI_some, ckm0]
      exact Or.inr ⟨1, q, cl + n, g1, rfl, ⟨a1, by omega, by omega, by omega⟩, ask_no1 a6 c1 a7⟩
    · obtain ⟨r1, r2, r3, r4⟩ := cmpO_rk rfl c1
      have hk := cmpO_bd c1
      have hb := bC_bd (op := cmpO (tk q)) (by omega)
      have hlt := lt_T X a1 (by intro z; rw [z] at c1; exact c1 rfl)
      rw [if_neg c1, if_neg (nI_m1 (by unfold cmpC; omega)), r_adv X (by omega) hlt, cV_some]
      rcases P1 d (q + 1) (cl + n) g1 (by omega) (by omega) (by omega) with ⟨n2, k2, m2, v2, q2, g2, e2, ⟨b1, b2⟩, ⟨b3, b4⟩, b5, b6, b7⟩ | ⟨fl, q2, c2, g2, e2, ⟨b1, b2, b3, b4⟩, b5⟩
      · rw [e2, cI_some, r_emit X (by omega) (c := cl + n + n2) (by omega) g2 (enc0 (op := cmpC (tk q)) (by unfold cmpC; omega)), cI_some, ckm1, show cl + n + n2 + 1 = cl + (n + n2 + 1) by omega]
        exact Or.inl ⟨n + n2 + 1, sq2 n k n2 k2 (bC (cmpO (tk q))), m ++ m2 ++ [(cmpO (tk q), 0)], _, q2, _, rfl, ⟨b1, by omega⟩, ⟨sq2_lo a3 b3, sq2_hi a4 b3 b4⟩, GX_cmp (GX_mono a5 (by omega)) b5 hk, ask_cmp a6 rfl c1 b6, b7⟩
      · obtain ⟨z, c', g', e3, hc'⟩ := r_emitF (X_flt X (nI fl) (nI (ts q2))) (D := d) (by omega) (p := q2) b2 g2 (nI (cmpC (tk q))) 0
        rw [e2, cI_some, e3, cI_some, ckm0]
        exact Or.inr ⟨fl, q2, c', g', rfl, ⟨b1, hc', b3, b4⟩, ask_no2 a6 rfl c1 b5⟩
  · rw [e2, cI_some, if_pos rfl]
    exact Or.inr ⟨fl, q2, c2, g2, rfl, ⟨b1, b2, b3, b4⟩, ask_no c0 b5⟩
theorem x_choice {h : MH} {tk : Nat → Nat} {ts : Nat → Nat} {tv : Nat → Nat} {T : Nat} {f : Nat → Int32} {sl : Bool} (X : RDX h tk ts tv T f sl) {o : Nat} (h0 : 0 < o) (ho : o ≤ 8) (P1 : PLV h tk ts tv T f sl F_X4_either 8 6 1 True A3 true tl3 o) (P2 : PLV h tk ts tv T f sl F_X4_sum 5 3 5 False A1 false tl1 o) : PCH h tk ts tv T f sl o := by
  intro D p cl g hD hp hcl
  obtain ⟨d, rfl⟩ : ∃ d, D = d + 1 := ⟨D - 1, by omega⟩
  have hT := X.2.1.1.1
  rw [S_X4_choice (lay_RD X.1 _ _)]
  rcases P1 d p cl g (by omega) hp hcl with ⟨n1, k1, m1, v1, q1, g1, e1, ⟨a1, a2⟩, ⟨a3, a4⟩, a5, a6, a7, a8, a9⟩ | ⟨fl, q2, c2, g2, e2, ⟨b1, b2, b3, b4⟩, b5⟩
  rotate_left
  · rw [e2, cI_some, if_pos rfl]
    exact Or.inr ⟨fl, q2, c2, g2, rfl, ⟨b1, b2, b3, b4⟩, cho_no b5⟩
  rw [e1, cI_some, if_neg (by decide)]
  by_cases t1 : tk q1 = 318
  rotate_left
  · have := r_expN X (D := d) (by omega) (t := 318) a1 (by omega) t1 (cl + n1) g1
    rw [show F_X4_expect d 318 (RD h (fset f q1 (cl + n1)) g1) = _ from this, cI_some, if_pos rfl]
    exact Or.inr ⟨1, q1, cl + n1, g1, rfl, ⟨a1, by omega, by omega, by omega⟩, cho_no1 a6 t1 a7 a9 a8⟩
  have hl1 := lt_T X a1 (by omega)
  have y1 := r_expY X (D := d) (by omega) (t := 318) a1 (by omega) (by omega) t1 (cl + n1) g1
  rw [show F_X4_expect d 318 (RD h (fset f q1 (cl + n1)) g1) = _ from y1, cI_some, if_neg (by decide), r_emit X (by omega) (c := cl + n1) (by omega) g1 (show ((0 : Int32) <<< (5 &&& 31)) ||| 3 = nI 3 from enc0 (op := 3) (by decide)), cI_some]
  rcases P2 d (q1 + 1) (cl + n1 + 1) (va_up g1 (cl + n1) (nI 3)) (by omega) (by omega) (by omega) with ⟨n2, k2, m2, v2, q2, g2, e2, ⟨b1, b2⟩, ⟨b3, b4⟩, b5, b6, b7⟩ | ⟨fl, q2, c2, g2, e2, ⟨b1, b2, b3, b4⟩, b5⟩
  rotate_left
  · rw [e2, cI_some, if_pos rfl]
    exact Or.inr ⟨fl, q2, c2, g2, rfl, ⟨b1, b2, b3, b4⟩, cho_no2 a6 t1 b5⟩
  rw [e2, cI_some, if_neg (by decide)]
  by_cases t2 : tk q2 = 319
  rotate_left
  · have := r_expN X (D := d) (by omega) (t := 319) b1 (by omega) t2 (cl + n1 + 1 + n2) g2
    rw [show F_X4_expect d 319 (RD h (fset f q2 (cl + n1 + 1 + n2)) g2) = _ from this, cI_some, if_pos rfl]
    exact Or.inr ⟨1, q2, cl + n1 + 1 + n2, g2, rfl, ⟨b1, by omega, by omega, by omega⟩, cho_no3 a6 t1 b6 t2 b7⟩
  have hl2 := lt_T X b1 (by omega)
  have y2 := r_expY X (D := d) (by omega) (t := 319) b1 (by omega) (by omega) t2 (cl + n1 + 1 + n2) g2
  rw [show F_X4_expect d 319 (RD h (fset f q2 (cl + n1 + 1 + n2)) g2) = _ from y2, cI_some, if_neg (by decide), r_emit X (by omega) (c := cl + n1 + 1 + n2) (by omega) g2 (show ((0 : Int32) <<< (5 &&& 31)) ||| 2 = nI 2 from enc0 (op := 2) (by decide)), cI_some, r_aim X (by omega) (s := cl + n1) (by omega) (by omega) _ (w := 0) (op := 3) (by omega) (by omega) (by rw [va_ne _ _ (by omega), b3 _ (by omega), va_same]), cV_some]
  rcases P2 d (q2 + 1) (cl + n1 + 1 + n2 + 1) (va_up (va_up g2 (cl + n1 + 1 + n2) (nI 2)) (cl + n1) (nI ((cl + n1 + 1 + n2 + 1) * 32 + 3))) (by omega) (by omega) (by omega) with ⟨n3, k3, m3, v3, q3, g3, e3, ⟨d1, d2⟩, ⟨d3, d4⟩, d5, d6, d7⟩ | ⟨fl, q3, c3, g3, e3, ⟨b1, b2, b3, b4⟩, d5⟩
  rotate_left
  · rw [e3, cI_some, if_pos rfl]
    exact Or.inr ⟨fl, q3, c3, g3, rfl, ⟨b1, b2, b3, b4⟩, cho_no4 a6 t1 b6 t2 d5⟩
  rw [e3, cI_some, if_neg (by decide)]
  by_cases t3 : tk q3 = 320
  rotate_left
  · have := r_expN X (D := d) (by omega) (t := 320) d1 (by omega) t3 (cl + n1 + 1 + n2 + 1 + n3) g3
    rw [show F_X4_expect d 320 (RD h (fset f q3 (cl + n1 + 1 + n2 + 1 + n3)) g3) = _ from this, cI_some, if_pos rfl]
    exact Or.inr ⟨1, q3, cl + n1 + 1 + n2 + 1 + n3, g3, rfl, ⟨d1, by omega, by omega, by omega⟩, cho_no5 a6 t1 b6 t2 d6 t3 d7⟩
  have hl3 := lt_T X d1 (by omega)
  have y3 := r_expY X (D := d) (by omega) (t := 320) d1 (by omega) (by omega) t3 (cl + n1 + 1 + n2 + 1 + n3) g3
  rw [show F_X4_expect d 320 (RD h (fset f q3 (cl + n1 + 1 + n2 + 1 + n3)) g3) = _ from y3, cI_some, if_neg (by decide), r_aim X (by omega) (s := cl + n1 + 1 + n2) (by omega) (by omega) _ (w := 0) (op := 2) (by omega) (by omega) (by rw [d3 _ (by omega), va_ne _ _ (by omega), va_same]), cV_some, show cl + n1 + 1 + n2 + 1 + n3 = cl + (n1 + n2 + n3 + 2) by omega]
  refine Or.inl ⟨n1 + n2 + n3 + 2, sqI n1 k1 n2 k2 n3 k3, m1 ++ m2 ++ m3 ++ [(3, 0)], _, q3 + 1, _, rfl, ⟨by omega, by omega⟩, ⟨fun j hj => ?_, fun j hj => ?_⟩, GX_ite a5 (GX_mono b5 (by omega)) (GX_mono d5 (by omega)), cho_ok h0 ho a6 t1 b6 t2 d6 t3⟩
  · rw [va_ne _ _ (by omega), d3 j (by omega), va_ne _ _ (by omega), va_ne _ _ (by omega), b3 j (by omega), va_ne _ _ (by omega), a3 j hj]
  · unfold sqI
    by_cases j1 : j < n1
    · rw [if_pos j1, va_ne _ _ (by omega), d3 _ (by omega), va_ne _ _ (by omega), va_ne _ _ (by omega), b3 _ (by omega), va_ne _ _ (by omega), a4 j j1]
    rw [if_neg j1]
    by_cases j2 : j = n1
    · rw [if_pos j2, j2, va_ne _ _ (by omega), d3 _ (by omega), va_same, show cl + n1 + 1 + n2 + 1 = cl + n1 + n2 + 2 by omega]
    rw [if_neg j2]
    by_cases j3 : j < n1 + 1 + n2
    · rw [if_pos j3, va_ne _ _ (by omega), d3 _ (by omega), va_ne _ _ (by omega), va_ne _ _ (by omega), ← b4 (j - (n1 + 1)) (by omega), show cl + n1 + 1 + (j - (n1 + 1)) = cl + j by omega]
    rw [if_neg j3]
    by_cases j4 : j = n1 + 1 + n2
    · rw [if_pos j4, j4, show cl + (n1 + 1 + n2) = cl + n1 + 1 + n2 by omega, va_same, show cl + (n1 + n2 + n3 + 2) = cl + n1 + n2 + n3 + 2 by omega]
    · rw [if_neg j4, va_ne _ _ (by omega)]
      have := d4 (j - (n1 + n2 + 2)) (by omega)
      rw [show cl + n1 + 1 + n2 + 1 + (j - (n1 + n2 + 2)) = cl + j by omega, show cl + n1 + 1 + n2 + 1 = cl + n1 + n2 + 2 by omega] at this
      exact this
theorem r_name {h : MH} {tk : Nat → Nat} {ts : Nat → Nat} {tv : Nat → Nat} {T : Nat} {f : Nat → Int32} {sl : Bool} (X : RDX h tk ts tv T f sl) {D : Nat} (hD : 2 ≤ D) {p cl : Nat} (hp : p < T) (hcl : cl < 300) {j : Nat} (hj : tk p = 307 + j) (hj7 : j < 7) (hs : tk p < 311 ∨ sl = true) (g : Nat → Int32) : F_X4_name D (nI (tk p)) (RD h (fset f p cl) g) = some (.int 1, RD h (fset f (p + 1) (cl + 1)) (va_up g cl (nI (j * 32 + 1)))) := by
  obtain ⟨d, rfl⟩ : ∃ d, D = d + 1 := ⟨D - 1, by omega⟩
  have e10 : G_X4_name_10 d (nI (tk p)) (RD h (fset f p cl) g) = some (.int 1, RD h (fset f (p + 1) (cl + 1)) (va_up g cl (nI (j * 32 + 1)))) := by
    rw [S_X4_name_10 (lay_RD X.1 _ _), hj, show nI (307 + j) - 307 = nI j by rw [nI_zI, nI_zI, show (307 : Int32) = zI 307 from lit_zI 307, zI_sub]; congr 1; omega, r_emit X (by omega) (c := cl) hcl g (show (nI j <<< (5 &&& 31)) ||| 1 = nI (j * 32 + 1) from enc_mk (w := j) (op := 1) (by omega) (by omega)), cI_some, r_adv X (by omega) hp, cV_some]
  rw [S_X4_name (lay_RD X.1 _ _)]
  by_cases c : tk p < 311
  · rw [if_pos (by rw [nIl (by omega) (by decide)]; exact c), e10]
  · rw [if_neg (by rw [nIl (by omega) (by decide)]; exact c), gI_RD55, fset_8, X.2.2, if_pos (hs.resolve_left c), if_neg (by decide), e10]
theorem r_nameF {h : MH} {tk : Nat → Nat} {ts : Nat → Nat} {tv : Nat → Nat} {T : Nat} {f : Nat → Int32} {sl : Bool} (X : RDX h tk ts tv T f sl) {D : Nat} (hD : 2 ≤ D) {p cl : Nat} (hp : p ≤ T) (h1 : 311 ≤ tk p) (h2 : tk p ≤ 313) (hs : sl = false) (g : Nat → Int32) : F_X4_name D (nI (tk p)) (RD h (fset f p cl) g) = some (.int 0, RD h (fset (flt f 5 (nI (ts p))) p cl) g) := by
  obtain ⟨d, rfl⟩ : ∃ d, D = d + 1 := ⟨D - 1, by omega⟩
  rw [S_X4_name (lay_RD X.1 _ _), if_neg (by rw [nIl (by omega) (by decide)]; show ¬ tk p < 311; omega), gI_RD55, fset_8, X.2.2, hs, if_pos (by decide), r_ref X (by omega) hp, cI_some, ckm0]
theorem r_numY {h : MH} {tk : Nat → Nat} {ts : Nat → Nat} {tv : Nat → Nat} {T : Nat} {f : Nat → Int32} {sl : Bool} (X : RDX h tk ts tv T f sl) {D : Nat} (hD : 2 ≤ D) {p cl : Nat} (hp : p < T) (hcl : cl < 300) (hv : tv p ≤ 9999) (g : Nat → Int32) : F_X4_numeral D (RD h (fset f p cl) g) = some (.int 1, RD h (fset f (p + 1) (cl + 1)) (va_up g cl (nI (tv p * 32)))) := by
  obtain ⟨d, rfl⟩ : ∃ d, D = d + 1 := ⟨D - 1, by omega⟩
  have hT := X.2.1.1.1
  have e := r_emit X (D := d) (by omega) (p := p) (c := cl) hcl g (x := 0) (y := nI (tv p)) (e := tv p * 32) (enc_mk (w := tv p) (op := 0) (by omega) (by omega))
  rw [S_X4_numeral (lay_RD X.1 _ _)]
  simp (disch := omega) only [gI_RD55, gI_RDo, fset_5, nI_ltI, nI_leI, nI_eq, nIl, nIL, nIe, nIz, ib_nIi, ib_L, ix_L, ck_pos, if_pos, if_neg, lt_def, ck_true, true_and, and_true, true_or, or_true, ix_nI, nI_1, nIa, nIb, nI_add, cI_some, cR_some, cL_some, cV_some, if_true, if_false, Bool.false_eq_true, ne_eq, not_true_eq_false, not_false_eq_true, (X.2.1.2.1 p (by omega)).2.2.1, e, r_adv X (D := d) (by omega) hp]
theorem r_numN {h : MH} {tk : Nat → Nat} {ts : Nat → Nat} {tv : Nat → Nat} {T : Nat} {f : Nat → Int32} {sl : Bool} (X : RDX h tk ts tv T f sl) {D : Nat} (hD : 2 ≤ D) {p cl : Nat} (hp : p ≤ T) (hv : ¬ tv p ≤ 9999) (g : Nat → Int32) : F_X4_numeral D (RD h (fset f p cl) g) = some (.int 0, RD h (fset (flt f 2 (nI (ts p))) p cl) g) := by
  obtain ⟨d, rfl⟩ : ∃ d, D = d + 1 := ⟨D - 1, by omega⟩
  have hT := X.2.1.1.1
  have := (X.2.1.2.1 p (by omega)).2.2.2.2.1
  rw [S_X4_numeral (lay_RD X.1 _ _)]
  simp (disch := omega) only [gI_RD55, gI_RDo, fset_5, nI_ltI, nI_leI, nI_eq, nIl, nIL, nIe, nIz, ib_nIi, ib_L, ix_L, ck_pos, if_pos, if_neg, lt_def, ck_true, true_and, and_true, true_or, or_true, ix_nI, nI_1, nIa, nIb, nI_add, cI_some, cR_some, cL_some, cV_some, if_true, if_false, Bool.false_eq_true, ne_eq, not_true_eq_false, not_false_eq_true, (X.2.1.2.1 p (by omega)).2.2.1, r_ref X (D := d) (by omega) hp, ckm0]
theorem x_one {h : MH} {tk : Nat → Nat} {ts : Nat → Nat} {tv : Nat → Nat} {T : Nat} {f : Nat → Int32} {sl : Bool} (X : RDX h tk ts tv T f sl) {o : Nat} (ho : o ≤ 8) (P1 : o < 8 → PLV h tk ts tv T f sl F_X4_sum 5 3 5 False A1 false tl1 (o + 1)) (P2 : o < 8 → PONE h tk ts tv T f sl (o + 1)) (P3 : o < 8 → PCH h tk ts tv T f sl (o + 1)) : PONE h tk ts tv T f sl o := by
  intro D p cl g hD hp hcl
  obtain ⟨d, rfl⟩ : ∃ d, D = d + 1 := ⟨D - 1, by omega⟩
  have hT := X.2.1.1.1
  have htk := (X.2.1.2.1 p hp).2.2.2.1
  rw [S_X4_one (lay_RD X.1 _ _), r_kind X (by omega) hp, cI_some]
  by_cases c0 : tk p = 258
  · have hlt := lt_T X hp (by omega)
    rw [if_pos (by rw [c0]; rfl)]
    by_cases c1 : tv p ≤ 9999
    · rw [r_numY X (by omega) hlt (by omega) c1, cI_some, ckm1]
      refine Or.inl ⟨1, fun _ _ => tv p * 32, [(0, tv p)], _, p + 1, _, rfl, ⟨by omega, by omega⟩, ⟨fun j hj => va_ne _ _ (by omega), fun j hj => ?_⟩, GX_mono (GX_num c1) (by omega), one_num ho c0 c1⟩
      rw [show cl + j = cl by omega, va_same]
    · rw [r_numN X (by omega) hp c1, cI_some, ckm0]
      exact Or.inr ⟨2, p, cl, g, rfl, ⟨hp, by omega, by omega, by omega⟩, no_num (fun π a => A9_60 ho π a.1) c0 c1⟩
  rw [if_neg (by rw [nIe (by omega) (by decide)]; exact c0)]
  obtain ⟨e, rfl⟩ : ∃ e, d = e + 1 := ⟨d - 1, by omega⟩
  rw [S_X10_within (lay_RD X.1 _ _)]
  by_cases c1 : 307 ≤ tk p ∧ tk p ≤ 313
  · have hlt := lt_T X hp (by omega)
    rw [if_neg (by rw [nIl (by omega) (by decide)]; show ¬ tk p < 307; omega), if_pos (by rw [nIL (by omega) (by decide)]; exact c1.2), cI_some, if_neg (by decide)]
    by_cases c2 : tk p < 311 ∨ sl = true
    · obtain ⟨j, hj⟩ : ∃ j, tk p = 307 + j := ⟨tk p - 307, by omega⟩
      rw [r_name X (by omega) hlt (by omega) hj (by omega) c2, cI_some, ckm1]
      have o1 := one_nam (tv := tv) (sl := sl) ho c1.1 c1.2 c2
      rw [show tk p - 307 = j by omega] at o1
      refine Or.inl ⟨1, fun _ _ => j * 32 + 1, [(1, j)], _, p + 1, _, rfl, ⟨by omega, by omega⟩, ⟨fun i hi => va_ne _ _ (by omega), fun i hi => ?_⟩, GX_mono (GX_nam (N := NN sl) ?_ ?_) (by omega), o1⟩
      · rw [show cl + i = cl by omega, va_same]
      · unfold NN
        split
        · omega
        · rename_i ns
          rcases c2 with c2 | c2
          · omega
          · exact absurd c2 ns
      · unfold NN
        split <;> omega
    · have hs : sl = false := by
        cases sl with
        | false => rfl
        | true => exact absurd (Or.inr rfl) c2
      rw [r_nameF X (by omega) hp (by omega) c1.2 hs, cI_some, ckm0]
      exact Or.inr ⟨5, p, cl, g, rfl, ⟨hp, by omega, by omega, by omega⟩, no_nam (fun π a => A9_60 ho π a.1) (by omega) c1.2 hs⟩
  have ew : (if nI (tk p) < 307 then some (Value.int 0, RD h (fset f p cl) g) else if nI (tk p) ≤ 313 then some (Value.int 1, RD h (fset f p cl) g) else some (Value.int 0, RD h (fset f p cl) g)) = some (Value.int 0, RD h (fset f p cl) g) := by
    by_cases c2 : tk p < 307
    · rw [if_pos (by rw [nIl (by omega) (by decide)]; exact c2)]
    · rw [if_neg (by rw [nIl (by omega) (by decide)]; exact c2), if_neg (by rw [nIL (by omega) (by decide)]; show ¬ tk p ≤ 313; omega)]
  rw [ew, cI_some, if_pos rfl]
  by_cases c2 : uo (tk p) = 0
  · have n1 : ¬ tk p = 40 ∧ ¬ tk p = 45 ∧ ¬ tk p = 315 ∧ ¬ tk p = 316 ∧ ¬ tk p = 317 := by
      refine ⟨?_, ?_, ?_, ?_, ?_⟩ <;> (intro z; rw [z] at c2; cases c2)
    rw [if_neg (by rw [nIe (by omega) (by decide)]; exact n1.1), if_neg (by rw [nIe (by omega) (by decide)]; exact n1.2.1), if_neg (by rw [nIe (by omega) (by decide)]; exact n1.2.2.1), if_neg (by rw [nIe (by omega) (by decide)]; exact n1.2.2.2.1), if_neg (by rw [nIe (by omega) (by decide)]; exact n1.2.2.2.2), r_ref X (by omega) hp, cI_some, ckm0]
    exact Or.inr ⟨1, p, cl, g, rfl, ⟨hp, by omega, by omega, by omega⟩, no_bad (fun π a => A9_60 ho π a.1) c0 c1 c2 (fun e π a => a.2 e)⟩
  have hlt := lt_T X hp (by intro z; rw [z] at c2; exact c2 rfl)
  have e37 : (if nI (tk p) = 40 then G_X4_one_37 (e + 1) (nI o) (nI (tk p)) (RD h (fset f p cl) g) else if nI (tk p) = 45 then G_X4_one_37 (e + 1) (nI o) (nI (tk p)) (RD h (fset f p cl) g) else if nI (tk p) = 315 then G_X4_one_37 (e + 1) (nI o) (nI (tk p)) (RD h (fset f p cl) g) else if nI (tk p) = 316 then G_X4_one_37 (e + 1) (nI o) (nI (tk p)) (RD h (fset f p cl) g) else if nI (tk p) = 317 then G_X4_one_37 (e + 1) (nI o) (nI (tk p)) (RD h (fset f p cl) g) else cI (F_X4_refuse (e + 1) 1 (RD h (fset f p cl) g)) (fun x8 h7 => ck (mrt 1 x8) (some (Value.int x8, h7)))) = G_X4_one_37 (e + 1) (nI o) (nI (tk p)) (RD h (fset f p cl) g) := by
    have := uo_cs c2
    rcases this with z | z | z | z | z <;> rw [z]
    · rw [if_pos (by decide)]
    · rw [if_neg (by decide), if_pos (by decide)]
    · rw [if_neg (by decide), if_neg (by decide), if_pos (by decide)]
    · rw [if_neg (by decide), if_neg (by decide), if_neg (by decide), if_pos (by decide)]
    · rw [if_neg (by decide), if_neg (by decide), if_neg (by decide), if_neg (by decide), if_pos (by decide)]
  rw [e37, S_X4_one_37 (lay_RD X.1 _ _)]
  by_cases c3 : o < 8
  rotate_left
  · rw [if_neg (by rw [nIl (by omega) (by decide)]; exact c3), r_ref X (by omega) hp, cI_some, ckm0]
    exact Or.inr ⟨3, p, cl, g, rfl, ⟨hp, by omega, by omega, by omega⟩, no_deep (fun π a => A9_60 ho π a.1) c0 c1 c2 (by omega)⟩
  rw [if_pos (by rw [nIl (by omega) (by decide)]; exact c3), r_adv X (by omega) hlt, cV_some, nI_1]
  by_cases t1 : tk p = 40
  · rw [if_pos (by rw [t1]; rfl)]
    rcases P1 c3 (e + 1) (p + 1) cl g (by omega) (by omega) (by omega) with ⟨n2, k2, m2, v2, q2, g2, e2, ⟨b1, b2⟩, ⟨b3, b4⟩, b5, b6, b7⟩ | ⟨fl, q2, c2, g2, e2, ⟨b1, b2, b3, b4⟩, b5⟩
    · rw [e2, cI_some, if_neg (by decide)]
      by_cases t2 : tk q2 = 41
      · have hl2 := lt_T X b1 (by omega)
        rw [show F_X4_expect (e + 1) 41 (RD h (fset f q2 (cl + n2)) g2) = _ from r_expY X (D := e + 1) (by omega) (t := 41) b1 (by omega) (by omega) t2 (cl + n2) g2, cI_some, if_neg (by decide)]
        exact Or.inl ⟨n2, k2, m2, v2, q2 + 1, g2, rfl, ⟨by omega, by omega⟩, ⟨b3, b4⟩, GX_mono b5 (by omega), one_par t1 c3 b6 t2⟩
      · rw [show F_X4_expect (e + 1) 41 (RD h (fset f q2 (cl + n2)) g2) = _ from r_expN X (D := e + 1) (by omega) (t := 41) b1 (by omega) t2 (cl + n2) g2, cI_some, if_pos rfl]
        exact Or.inr ⟨1, q2, cl + n2, g2, rfl, ⟨b1, by omega, by omega, by omega⟩, no_par2 t1 c3 b6 b7 t2⟩
    · rw [e2, cI_some, if_pos rfl]
      exact Or.inr ⟨fl, q2, c2, g2, rfl, ⟨b1, b2, b3, b4⟩, no_par t1 c3 b5⟩
  rw [if_neg (by rw [nIe (by omega) (by decide)]; exact t1)]
  by_cases t2 : tk p = 317
  · rw [if_pos (by rw [t2]; rfl)]
    rcases P3 c3 (e + 1) (p + 1) cl g (by omega) (by omega) (by omega) with ⟨n2, k2, m2, v2, q2, g2, e2, ⟨b1, b2⟩, ⟨b3, b4⟩, b5, b6⟩ | ⟨fl, q2, c2, g2, e2, ⟨b1, b2, b3, b4⟩, b5⟩
    · rw [e2, cI_some, ckm1]
      exact Or.inl ⟨n2, k2, m2, v2, q2, g2, rfl, ⟨by omega, by omega⟩, ⟨b3, b4⟩, GX_mono b5 (by omega), one_if t2 c3 b6⟩
    · rw [e2, cI_some, ckm0]
      exact Or.inr ⟨fl, q2, c2, g2, rfl, ⟨b1, b2, b3, b4⟩, no_if t2 c3 b5⟩
  rw [if_neg (by rw [nIe (by omega) (by decide)]; exact t2)]
  have hk : uo (tk p) = 5 ∨ uo (tk p) = 4 ∨ uo (tk p) = 2 := by
    rcases uo_cs c2 with z | z | z | z | z
    · exact absurd z t1
    · rw [z]; exact Or.inl rfl
    · rw [z]; exact Or.inr (Or.inl rfl)
    · rw [z]; exact Or.inr (Or.inr rfl)
    · exact absurd z t2
  have e90 : ∀ (x : Int32) (h1 : MH), (if nI (tk p) = 45 then G_X4_one_90 (e + 1) (nI o) (nI (tk p)) x 4 h1 else if nI (tk p) = 315 then G_X4_one_90 (e + 1) (nI o) (nI (tk p)) x 5 h1 else G_X4_one_90 (e + 1) (nI o) (nI (tk p)) x 6 h1) = G_X4_one_90 (e + 1) (nI o) (nI (tk p)) x (nI (uC (uo (tk p)))) h1 := by
    intro x h1
    rcases uo_cs c2 with z | z | z | z | z
    · exact absurd z t1
    · rw [z, if_pos (by decide)]; rfl
    · rw [z, if_neg (by decide), if_pos (by decide)]; rfl
    · rw [z, if_neg (by decide), if_neg (by decide)]; rfl
    · exact absurd z t2
  have hu : uC (uo (tk p)) < 32 := by rcases hk with z | z | z <;> rw [z] <;> decide
  rcases P2 c3 (e + 1) (p + 1) cl g (by omega) (by omega) (by omega) with ⟨n2, k2, m2, v2, q2, g2, e2, ⟨b1, b2⟩, ⟨b3, b4⟩, b5, b6⟩ | ⟨fl, q2, c2', g2, e2, ⟨b1, b2, b3, b4⟩, b5⟩
  · rw [e2, cI_some, e90, S_X4_one_90 (lay_RD X.1 _ _), r_emit X (by omega) (c := cl + n2) (by omega) g2 (enc0 hu), cI_some, ckm1, Nat.add_assoc]
    exact Or.inl ⟨n2 + 1, sq1 n2 k2 (uC (uo (tk p))), m2 ++ [(uo (tk p), 0)], _, q2, _, rfl, ⟨b1, by omega⟩, ⟨sq1_lo b3, sq1_hi b4⟩, GX_mono (GX_un b5 hk) (by omega), one_un c0 c1 rfl hk c3 b6⟩
  · obtain ⟨z, c', g', e3, hc'⟩ := r_emitF (X_flt X (nI fl) (nI (ts q2))) (D := e + 1) (by omega) (p := q2) b2 g2 (nI (uC (uo (tk p)))) 0
    rw [e2, cI_some, e90, S_X4_one_90 (lay_RD X.1 _ _), e3, cI_some, ckm0]
    exact Or.inr ⟨fl, q2, c', g', rfl, ⟨b1, hc', b3, b4⟩, no_un c0 c1 rfl hk c3 b5⟩
/-- all of them -/
theorem x_all {h : MH} {tk : Nat → Nat} {ts : Nat → Nat} {tv : Nat → Nat} {T : Nat} {f : Nat → Int32} {sl : Bool} (X : RDX h tk ts tv T f sl) : ∀ n o, n + o = 8 → PONE h tk ts tv T f sl o ∧ PLV h tk ts tv T f sl F_X4_sum 5 3 5 False A1 false tl1 o ∧ PLV h tk ts tv T f sl F_X4_ask 6 4 3 True A8 true tl1 o ∧ (0 < o → PCH h tk ts tv T f sl o) := by
  intro n
  induction n with
  | zero =>
    intro o ho
    have ho' : o ≤ 8 := by omega
    have h1 := x_one X ho' (fun c => absurd c (by omega)) (fun c => absurd c (by omega)) (fun c => absurd c (by omega))
    have h2 := x_sum X ho' (x_product X ho' h1)
    have h3 := x_ask X ho' h2 (fun c => absurd c (by omega))
    exact ⟨h1, h2, h3, fun c => x_choice X c ho' (x_either X ho' (x_both X ho' h3)) h2⟩
  | succ n ih =>
    intro o ho
    have ho' : o ≤ 8 := by omega
    obtain ⟨i1, i2, i3, i4⟩ := ih (o + 1) (by omega)
    have h1 := x_one X ho' (fun _ => i2) (fun _ => i1) (fun _ => i4 (by omega))
    have h2 := x_sum X ho' (x_product X ho' h1)
    have h3 := x_ask X ho' h2 (fun _ => i3)
    exact ⟨h1, h2, h3, fun c => x_choice X c ho' (x_either X ho' (x_both X ho' h3)) h2⟩
end RDQ
