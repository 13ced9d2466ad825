--deps:19.lay 21.facts 22.00.names 22.01.eq 22.02.eq 22.03.eq 22.04.eq 22.05.eq 22.06.eq 22.07.eq 22.08.eq 22.09.eq 22.10.eq 22.11.eq 22.12.eq 22.13.eq 22.14.eq 22.15.eq 22.16.eq 22.17.eq 22.18.eq 22.19.eq 22.20.eq 22.21.eq 22.22.eq 22.23.eq 23.num 24.town 25.evc 26.evm 27.law 28.says 29.inv 71.yard 72.yard2 73.gx 74.gx2 75.gx3 76.reader 79.mtok 80.mpile 81.myard 82.msum 85.lexm 86.lexm2
/-! THE CLASS'S TAPE: letters, words, signs -/
set_option linter.unusedSectionVars false
def WCH : List Nat := [116, 105, 112, 115, 32, 115, 108, 105, 100, 101, 115, 32, 112, 101, 114, 115, 111, 110, 32, 103, 111, 97, 108, 32, 108, 101, 102, 116, 32, 114, 105, 103, 104, 116, 32, 115, 104, 111, 118, 101, 108, 32, 104, 111, 117, 114, 32, 116, 105, 112, 32, 97, 108, 108, 32, 115, 110, 111, 119, 32, 119, 104, 111, 32, 119, 101, 105, 103, 104, 116, 32, 112, 108, 97, 99, 101, 32, 97, 116, 32, 115, 105, 103, 110, 32, 108, 111, 97, 100, 32, 105, 102, 32, 116, 104, 101, 110, 32, 101, 108, 115, 101, 32, 101, 110, 100, 32, 111, 114, 32, 97, 110, 100, 32, 110, 111, 116, 32]
def offW : Nat → Nat
  | 0 => 0
  | j + 1 => offW j + (wds.getD j []).length + 1
theorem wch_m : ∀ i, i < 118 → (((((mbW.getD i 0) &&& 255) : Int32).toUInt32 % 65536).toInt32) = nI (WCH.getD i 0) ∧ ((nI (WCH.getD i 0)).toUInt32 % 65536).toInt32 = nI (WCH.getD i 0) := by decide +kernel
theorem wch_w : ∀ j, j < 24 → (∀ i, i < (wds.getD j []).length → WCH.getD (offW j + i) 0 = (wds.getD j []).getD i 0 ∧ ¬ (wds.getD j []).getD i 0 = 32 ∧ (wds.getD j []).getD i 0 < 256) ∧ WCH.getD (offW j + (wds.getD j []).length) 0 = 32 ∧ offW j + (wds.getD j []).length < 118 := by decide +kernel
theorem offW24 : offW 24 = 118 := by decide +kernel
def SGL : List Nat := [60, 62, 61, 35, 43, 45, 42, 47, 40, 41, 59]
theorem sgl_m : ∀ b, b < 256 → ∀ i, i < 11 → ((mbS.getD i 0 = (nI b).toInt8.toInt32) ↔ b = SGL.getD i 0) := by decide +kernel
theorem sgl_s : ∀ b, b < 256 → ((∃ i, i < 11 ∧ b = SGL.getD i 0) ↔ b ∈ [35, 40, 41, 42, 43, 45, 47, 59, 60, 61, 62]) := by decide +kernel
theorem chr_b : ∀ b, b < 256 → ((nI b).toUInt32 % 65536).toInt32 = nI b := by decide +kernel
section STR
theorem s_coder {h : MH} (L : lay h) {D a0 : Nat} (hD : 1 ≤ D) (hk : kd h a0 = 25) (hc : gI h a0 1 = 0) : mE mtab D 36 [.ref a0] h = some (.int 0, h) := by
  obtain ⟨d, rfl⟩ : ∃ d, D = d + 1 := ⟨D - 1, by omega⟩
  rw [D_J0_coder_7d493, if_neg (by decide), ck_pos hk, hc, ck_pos (show mrt 3 0 from rfl)]
theorem s_lat {h : MH} (L : lay h) {D a0 : Nat} (hD : 1 ≤ D) (hk : kd h a0 = 25) (hc : gI h a0 1 = 0) : mE mtab D 38 [.ref a0] h = some (.int 1, h) := by
  obtain ⟨d, rfl⟩ : ∃ d, D = d + 1 := ⟨D - 1, by omega⟩
  rw [D_J0_isLatin1_aae02, if_neg (by decide), ck_pos hk, if_pos hc]
theorem s_len {h : MH} (L : lay h) {D a0 b n : Nat} (hD : 2 ≤ D) (hk : kd h a0 = 25) (hc : gI h a0 1 = 0) (hr : gR h a0 0 = b) (hb : kd h b = 26) (hn : ln h b = n) (hn2 : n < 1000) : mE mtab D 37 [.ref a0] h = some (.int (nI n), h) := by
  obtain ⟨d, rfl⟩ : ∃ d, D = d + 1 := ⟨D - 1, by omega⟩
  rw [D_J0_length_8abf5, ck_pos hk, hr, hb, ck_pos (by decide), ck_pos hk, s_coder L (by omega) hk hc, cI_some, hn, show (0 : Int32) = nI 0 from rfl, shr_nI (by omega) (by omega)]
  simp
theorem s_ix {h : MH} (L : lay h) {D i n : Nat} (hD : 2 ≤ D) (hi : i < n) (hn : n < 1000) : mE mtab D 40 [.int (nI i), .int (nI n)] h = some (.int 0, h) := by
  obtain ⟨d, rfl⟩ : ∃ d, D = d + 2 := ⟨D - 2, by omega⟩
  rw [D_J0_checkIndex_df160, D_J3_checkIndex_8e157, if_neg (nIz (by omega)), if_pos (by rw [nI_ltI (by omega) (by omega)]; exact hi), cI_some]
theorem s_char {h : MH} (L : lay h) {D i : Nat} (hD : 4 ≤ D) (hi : i < 118) : mE mtab D 46 [.ref 4, .int (nI i)] h = some (.int (nI (WCH.getD i 0)), h) := by
  obtain ⟨d, rfl⟩ : ∃ d, D = d + 2 := ⟨D - 2, by omega⟩
  have hk : kd h 4 = 25 := lay_kd L (by decide)
  have hb : kd h 6 = 26 := lay_kd L (by decide)
  have hn : ln h 6 = 118 := L.2.2.1 6 (by decide) (by decide)
  have hc : gI h 4 1 = 0 := L.2.2.2.2.2.2.2.2.1
  have hg : gI h 6 = fun j => mbW.getD j 0 := L.2.2.2.2.2.2.1
  obtain ⟨w1, w2⟩ := wch_m i hi
  rw [D_J0_charAt_5068e, ck_pos hk, s_lat L (by omega) hk hc, cI_some, if_neg (by decide), ck_pos hk, r_4_0 L, D_J1_charAt_3b067, hb, ck_pos (by decide), hn, s_ix L (by omega) hi (by omega), cV_some, hb, hn, ck_pos ⟨by decide, (ib_nIi (by omega)).mpr hi⟩, ix_nI (by omega), hg, w1, ck_pos (show mrt 2 (nI (WCH.getD i 0)) from w2), cI_some, ck_pos (show mrt 2 (nI (WCH.getD i 0)) from w2)]
theorem s_wl {h : MH} (L : lay h) {D : Nat} (hD : 2 ≤ D) : mE mtab D 37 [.ref 4] h = some (.int (nI 118), h) :=
  s_len L hD (lay_kd L (by decide)) L.2.2.2.2.2.2.2.2.1 (r_4_0 L) (lay_kd L (by decide)) (L.2.2.1 6 (by decide) (by decide)) (by decide)
theorem s_find {h : MH} (L : lay h) {d b : Nat} (hb : b < 256) : ∀ r i, i + r = 11 → (∀ t, t < i → ¬ b = SGL.getD t 0) → ∃ v : Int32, mX (mE mtab d) KJ1_indexOfChar_4cfef 5 [some (.ref 7), some (.int (nI b)), some (.int (nI 0)), some (.int (nI 11)), some (.int ((nI b).toInt8.toInt32)), some (.int (nI i))] [] h = some (.int v, h) ∧ (v < 0 ↔ ¬ sgnT b) := by
  have hk : kd h 7 = 26 := lay_kd L (by decide)
  have hn : ln h 7 = 11 := L.2.2.1 7 (by decide) (by decide)
  have hg : gI h 7 = fun j => mbS.getD j 0 := L.2.2.2.2.2.2.2.1
  intro r
  induction r with
  | zero =>
    intro i hi ht
    refine ⟨-1, ?_, ⟨fun _ z => ?_, fun _ => by decide⟩⟩
    · rw [D_J1_indexOfChar_4cfef_5, if_neg (by rw [nI_ltI (by omega) (by omega)]; omega)]
    · obtain ⟨t, t1, t2⟩ := (sgl_s b hb).mpr z
      exact ht t (by omega) t2
  | succ r ih =>
    intro i hi ht
    rw [D_J1_indexOfChar_4cfef_5, if_pos (by rw [nI_ltI (by omega) (by omega)]; omega), hk, hn, ck_pos ⟨by decide, (ib_nIi (by omega)).mpr (by omega)⟩, ix_nI (by omega), hg]
    have e := sgl_m b hb i (by omega)
    by_cases c : b = SGL.getD i 0
    · refine ⟨nI i, by rw [if_pos (e.mpr c)], ⟨fun z => absurd z (nIz (by omega)), fun z => absurd ((sgl_s b hb).mp ⟨i, by omega, c⟩) z⟩⟩
    · rw [if_neg (fun z => c (e.mp z)), nI_1]
      exact ih (i + 1) (by omega) (fun t h1 => by
        rcases Nat.lt_or_ge t i with q | q
        · exact ht t q
        · have : t = i := by omega
          rw [this]; exact c)
theorem c_sign {h : MH} (L : lay h) {D b : Nat} (hD : 6 ≤ D) (hb : b < 256) : ∃ v : Int32, F_X7_isSign D (nI b) h = some (.int v, h) ∧ (v = 0 ∧ ¬ sgnT b ∨ v = 1 ∧ sgnT b) := by
  obtain ⟨d, rfl⟩ : ∃ d, D = d + 5 := ⟨D - 5, by omega⟩
  have hk : kd h 5 = 25 := lay_kd L (by decide)
  have hk7 : kd h 7 = 26 := lay_kd L (by decide)
  have hn : ln h 7 = 11 := L.2.2.1 7 (by decide) (by decide)
  have hc : gI h 5 1 = 0 := L.2.2.2.2.2.2.2.2.2
  have hr : gR h 5 0 = 7 := L.2.2.2.1 (5, 0, 7) (by decide +kernel)
  obtain ⟨v, v1, v2⟩ := s_find L (d := d) hb 11 0 rfl (fun t z => absurd z (Nat.not_lt_zero t))
  have e : mE mtab (d + 4) 63 [.ref 5, .int (nI b)] h = some (.int v, h) := by
    rw [D_J0_indexOf_0f7a4, ck_pos hk, D_J0_indexOf_7cf53, ck_pos hk, s_lat L (by omega) hk hc, cI_some, if_neg (by decide), ck_pos hk, ck_pos hk, s_len L (by omega) hk hc hr hk7 hn (by decide), cI_some, hr, D_J1_indexOf_4cfef, D_J1_canEncode_9a6ad, if_neg (nIz (by omega)), if_pos (by rw [nIL (by omega) (by decide)]; show b ≤ 255; omega), cI_some, if_neg (by decide), show jmax 0 0 = 0 by decide, lt_def, hk7, ck_pos (by decide), hn, show jmin (nI 11) (nI 11) = nI 11 by decide, lt_def, if_pos (by decide), D_J1_indexOfChar_4cfef, lt_def, show (0 : Int32) = nI 0 from rfl, v1, cI_some, cI_some, cI_some]
  rw [S_X7_isSign L, chr_b b hb, e, cI_some]
  by_cases c : v < 0
  · exact ⟨0, by rw [if_pos c], Or.inl ⟨rfl, v2.mp c⟩⟩
  · refine ⟨1, by rw [if_neg c], Or.inr ⟨rfl, ?_⟩⟩
    rcases Classical.em (sgnT b) with q | q
    · exact q
    · exact absurd (v2.mpr q) c
end STR
/-- the tape's rows -/
def TD (h : MH) (c k s v : Nat → Int32) : MH := rI (rI (rI (rI h 50 c) 52 k) 53 s) 54 v
section TDH
theorem gI_TD50 (h : MH) (c : Nat → Int32) (k : Nat → Int32) (s : Nat → Int32) (v : Nat → Int32) : gI (TD h c k s v) 50 = c := by
  unfold TD
  rw [gI_rI, if_neg (by decide), gI_rI, if_neg (by decide), gI_rI, if_neg (by decide), gI_rI, if_pos rfl]
theorem gI_TDo (h : MH) (c : Nat → Int32) (k : Nat → Int32) (s : Nat → Int32) (v : Nat → Int32) {b : Nat} (h1 : ¬ b = 50) (h2 : ¬ b = 52) (h3 : ¬ b = 53) (h4 : ¬ b = 54) : gI (TD h c k s v) b = gI h b := by
  unfold TD
  rw [gI_rI, if_neg h4, gI_rI, if_neg h3, gI_rI, if_neg h2, gI_rI, if_neg h1]
theorem gI_TD52 (h : MH) (c : Nat → Int32) (k : Nat → Int32) (s : Nat → Int32) (v : Nat → Int32) : gI (TD h c k s v) 52 = k := by
  unfold TD
  rw [gI_rI, if_neg (by decide), gI_rI, if_neg (by decide), gI_rI, if_pos rfl]
theorem gI_TD53 (h : MH) (c : Nat → Int32) (k : Nat → Int32) (s : Nat → Int32) (v : Nat → Int32) : gI (TD h c k s v) 53 = s := by
  unfold TD
  rw [gI_rI, if_neg (by decide), gI_rI, if_pos rfl]
theorem gI_TD54 (h : MH) (c : Nat → Int32) (k : Nat → Int32) (s : Nat → Int32) (v : Nat → Int32) : gI (TD h c k s v) 54 = v := by
  unfold TD
  rw [gI_rI, if_pos rfl]
theorem sI_TD50 (h : MH) (c : Nat → Int32) (k : Nat → Int32) (s : Nat → Int32) (v : Nat → Int32) (j : Nat) (x : Int32) : sI (TD h c k s v) 50 j x = TD h (va_up c j x) k s v := by
  rw [sI_def, gI_TD50]
  unfold TD
  rw [rI_swap _ v _ (by decide), rI_swap _ s _ (by decide), rI_swap _ k _ (by decide), rI_rI]
theorem sI_TD52 (h : MH) (c : Nat → Int32) (k : Nat → Int32) (s : Nat → Int32) (v : Nat → Int32) (j : Nat) (x : Int32) : sI (TD h c k s v) 52 j x = TD h c (va_up k j x) s v := by
  rw [sI_def, gI_TD52]
  unfold TD
  rw [rI_swap _ v _ (by decide), rI_swap _ s _ (by decide), rI_rI]
theorem sI_TD53 (h : MH) (c : Nat → Int32) (k : Nat → Int32) (s : Nat → Int32) (v : Nat → Int32) (j : Nat) (x : Int32) : sI (TD h c k s v) 53 j x = TD h c k (va_up s j x) v := by
  rw [sI_def, gI_TD53]
  unfold TD
  rw [rI_swap _ v _ (by decide), rI_rI]
theorem sI_TD54 (h : MH) (c : Nat → Int32) (k : Nat → Int32) (s : Nat → Int32) (v : Nat → Int32) (j : Nat) (x : Int32) : sI (TD h c k s v) 54 j x = TD h c k s (va_up v j x) := by
  rw [sI_def, gI_TD54]
  unfold TD
  rw [rI_rI]
end TDH
theorem lay_TD {h : MH} (L : lay h) (c k s v : Nat → Int32) : lay (TD h c k s v) := lay_rI (lay_rI (lay_rI (lay_rI L (by decide)) (by decide)) (by decide)) (by decide)
section CHR
theorem c_blk {h : MH} (L : lay h) {D b : Nat} (hD : 1 ≤ D) (hb : b < 256) : F_X7_isBlank D (nI b) h = some (.int (if b = 32 ∨ b = 10 then 1 else 0), h) := by
  obtain ⟨d, rfl⟩ : ∃ d, D = d + 1 := ⟨D - 1, by omega⟩
  rw [S_X7_isBlank L]
  by_cases c1 : b = 32
  · subst c1; rfl
  rw [if_neg (by rw [nIe (by omega) (by decide)]; exact c1)]
  by_cases c2 : b = 10
  · subst c2; rfl
  rw [if_neg (by rw [nIe (by omega) (by decide)]; exact c2), if_neg (by omega)]
theorem c_dig {h : MH} (L : lay h) {D b : Nat} (hD : 1 ≤ D) (hb : b < 256) : F_X7_isDigit D (nI b) h = some (.int (if 48 ≤ b ∧ b ≤ 57 then 1 else 0), h) := by
  obtain ⟨d, rfl⟩ : ∃ d, D = d + 1 := ⟨D - 1, by omega⟩
  rw [S_X7_isDigit L]
  by_cases c1 : b < 48
  · rw [if_pos (by rw [nIl (by omega) (by decide)]; exact c1), if_neg (by omega)]
  rw [if_neg (by rw [nIl (by omega) (by decide)]; exact c1)]
  by_cases c2 : b ≤ 57
  · rw [if_pos (by rw [nIL (by omega) (by decide)]; exact c2), if_pos (by omega)]
  · rw [if_neg (by rw [nIL (by omega) (by decide)]; exact c2), if_neg (by omega)]
theorem c_ltr {h : MH} (L : lay h) {D b : Nat} (hD : 1 ≤ D) (hb : b < 256) : F_X7_isLetter D (nI b) h = some (.int (if 97 ≤ b ∧ b ≤ 122 ∨ 65 ≤ b ∧ b ≤ 90 then 1 else 0), h) := by
  obtain ⟨d, rfl⟩ : ∃ d, D = d + 1 := ⟨D - 1, by omega⟩
  have e6 : ¬ (97 ≤ b ∧ b ≤ 122) → G_X7_isLetter_6 d (nI b) h = some (.int (if 97 ≤ b ∧ b ≤ 122 ∨ 65 ≤ b ∧ b ≤ 90 then 1 else 0), h) := by
    intro z
    rw [S_X7_isLetter_6 L]
    by_cases c1 : b < 65
    · rw [if_pos (by rw [nIl (by omega) (by decide)]; exact c1), if_neg (by omega)]
    rw [if_neg (by rw [nIl (by omega) (by decide)]; exact c1)]
    by_cases c2 : b ≤ 90
    · rw [if_pos (by rw [nIL (by omega) (by decide)]; exact c2), if_pos (by omega)]
    · rw [if_neg (by rw [nIL (by omega) (by decide)]; exact c2), if_neg (by omega)]
  rw [S_X7_isLetter L]
  by_cases c1 : b < 97
  · rw [if_pos (by rw [nIl (by omega) (by decide)]; exact c1), e6 (by omega)]
  rw [if_neg (by rw [nIl (by omega) (by decide)]; exact c1)]
  by_cases c2 : b ≤ 122
  · rw [if_pos (by rw [nIL (by omega) (by decide)]; exact c2), if_pos (by omega)]
  · rw [if_neg (by rw [nIL (by omega) (by decide)]; exact c2), e6 (by omega)]
end CHR
section WAT
/-- a word that isn't: on to the next -/
theorem w_dead {h : MH} (L : lay h) {by_ : Nat → Nat} {len : Nat} (hl : len ≤ 300) (hb : ∀ j, j < 300 → gI h 51 j = nI (by_ j) ∧ by_ j < 256) {s : Nat} {e : Nat} (hse : s < e ∧ e ≤ len) {D : Nat} (hD : 4 ≤ D) {j : Nat} (hj : j < 24) : ∀ (r i : Nat) (l4 : Int32) (o : Option Value), i + r = (wds.getD j []).length → ∃ o', G_X7_wordAt_8 D (nI s) (nI e) (nI (300 + j)) l4 0 (nI (offW j + i)) o h = G_X7_wordAt_8 D (nI s) (nI e) (nI (300 + (j + 1))) (nI s) 1 (nI (offW (j + 1))) o' h := by
  obtain ⟨w1, w2, w3⟩ := wch_w j hj
  intro r
  induction r with
  | zero =>
    intro i l4 o hi
    have hi' : i = (wds.getD j []).length := by omega
    subst hi'
    refine ⟨some (.int 32), ?_⟩
    rw [S_X7_wordAt_8 L, s_wl L (by omega), cI_some, if_pos (by rw [nI_ltI (by omega) (by omega)]; omega), s_char L hD (by omega), cI_some, w2, if_pos (by decide), if_pos rfl, S_X7_wordAt_26 L, S_X7_wordAt_47 L, nI_1, nI_1]
    rfl
  | succ r ih =>
    intro i l4 o hi
    obtain ⟨c1, c2, c3⟩ := w1 i (by omega)
    obtain ⟨o', q⟩ := ih (i + 1) l4 (some (.int (nI ((wds.getD j []).getD i 0)))) (by omega)
    refine ⟨o', ?_⟩
    rw [S_X7_wordAt_8 L, s_wl L (by omega), cI_some, if_pos (by rw [nI_ltI (by omega) (by omega)]; omega), s_char L hD (by omega), cI_some, c1, if_neg (by rw [nIe (by omega) (by decide)]; exact c2), if_pos rfl, S_X7_wordAt_45 L, S_X7_wordAt_47 L, nI_1, Nat.add_assoc, q]
theorem w_like {h : MH} (L : lay h) {by_ : Nat → Nat} {len : Nat} (hl : len ≤ 300) (hb : ∀ j, j < 300 → gI h 51 j = nI (by_ j) ∧ by_ j < 256) {s : Nat} {e : Nat} (hse : s < e ∧ e ≤ len) {D : Nat} (hD : 4 ≤ D) {j : Nat} (hj : j < 24) : ∀ (r i : Nat) (o : Option Value), i + r = (wds.getD j []).length → s + i ≤ e → (∀ t, t < i → by_ (s + t) = (wds.getD j []).getD t 0) → (MW by_ s e j ∧ G_X7_wordAt_8 D (nI s) (nI e) (nI (300 + j)) (nI (s + i)) 1 (nI (offW j + i)) o h = some (.int (nI (300 + j)), h)) ∨ (¬ MW by_ s e j ∧ ∃ o', G_X7_wordAt_8 D (nI s) (nI e) (nI (300 + j)) (nI (s + i)) 1 (nI (offW j + i)) o h = G_X7_wordAt_8 D (nI s) (nI e) (nI (300 + (j + 1))) (nI s) 1 (nI (offW (j + 1))) o' h) := by
  obtain ⟨w1, w2, w3⟩ := wch_w j hj
  intro r
  induction r with
  | zero =>
    intro i o hi hie ht
    have hi' : i = (wds.getD j []).length := by omega
    subst hi'
    rw [S_X7_wordAt_8 L, s_wl L (by omega), cI_some, if_pos (by rw [nI_ltI (by omega) (by omega)]; omega), s_char L hD (by omega), cI_some, w2, if_pos (by decide), if_neg (by decide)]
    by_cases c : s + (wds.getD j []).length = e
    · rw [if_pos (by rw [c])]
      exact Or.inl ⟨⟨by omega, fun t h1 => ht t (by omega)⟩, rfl⟩
    · refine Or.inr ⟨fun z => c (by have := z.1; omega), some (.int 32), ?_⟩
      rw [if_neg (by rw [nI_eq (by omega) (by omega)]; exact c), S_X7_wordAt_26 L, S_X7_wordAt_47 L, nI_1, nI_1]
      rfl
  | succ r ih =>
    intro i o hi hie ht
    obtain ⟨c1, c2, c3⟩ := w1 i (by omega)
    have pre : G_X7_wordAt_8 D (nI s) (nI e) (nI (300 + j)) (nI (s + i)) 1 (nI (offW j + i)) o h = (if nI (s + i) < nI e then ck (ib (nI (s + i)) 300) (if gI h 51 (ix (nI (s + i))) = nI ((wds.getD j []).getD i 0) then G_X7_wordAt_47 D (nI s) (nI e) (nI (300 + j)) (nI (s + i) + 1) 1 (nI (offW j + i)) (nI ((wds.getD j []).getD i 0)) h else G_X7_wordAt_45 D (nI s) (nI e) (nI (300 + j)) (nI (s + i)) 1 (nI (offW j + i)) (nI ((wds.getD j []).getD i 0)) h) else G_X7_wordAt_45 D (nI s) (nI e) (nI (300 + j)) (nI (s + i)) 1 (nI (offW j + i)) (nI ((wds.getD j []).getD i 0)) h) := by
      rw [S_X7_wordAt_8 L, s_wl L (by omega), cI_some, if_pos (by rw [nI_ltI (by omega) (by omega)]; omega), s_char L hD (by omega), cI_some, c1, if_neg (by rw [nIe (by omega) (by decide)]; exact c2), if_neg (by decide)]
    have dead : ∃ o', G_X7_wordAt_45 D (nI s) (nI e) (nI (300 + j)) (nI (s + i)) 1 (nI (offW j + i)) (nI ((wds.getD j []).getD i 0)) h = G_X7_wordAt_8 D (nI s) (nI e) (nI (300 + (j + 1))) (nI s) 1 (nI (offW (j + 1))) o' h := by
      obtain ⟨o', q⟩ := w_dead L hl hb hse hD hj r (i + 1) (nI (s + i)) (some (.int (nI ((wds.getD j []).getD i 0)))) (by omega)
      exact ⟨o', by rw [S_X7_wordAt_45 L, S_X7_wordAt_47 L, nI_1, Nat.add_assoc, q]⟩
    rw [pre]
    by_cases d1 : s + i < e
    · obtain ⟨b1, b2⟩ := hb (s + i) (by omega)
      rw [if_pos (by rw [nI_ltI (by omega) (by omega)]; exact d1), ck_pos ((ib_nIi (by omega)).mpr (by omega)), ix_nI (by omega), b1]
      by_cases d2 : by_ (s + i) = (wds.getD j []).getD i 0
      · rw [if_pos (by rw [d2]), S_X7_wordAt_47 L, nI_1, nI_1, Nat.add_assoc, Nat.add_assoc]
        exact ih (i + 1) _ (by omega) (by omega) (fun t h1 => by
          rcases Nat.lt_or_ge t i with q | q
          · exact ht t q
          · have : t = i := by omega
            rw [this]; exact d2)
      · rw [if_neg (by rw [nI_eq (by omega) (by omega)]; exact d2)]
        exact Or.inr ⟨fun z => d2 (z.2 i (by omega)), dead⟩
    · rw [if_neg (by rw [nI_ltI (by omega) (by omega)]; exact d1)]
      exact Or.inr ⟨fun z => by have := z.1; omega, dead⟩
theorem w_all {h : MH} (L : lay h) {by_ : Nat → Nat} {len : Nat} (hl : len ≤ 300) (hb : ∀ j, j < 300 → gI h 51 j = nI (by_ j) ∧ by_ j < 256) {s : Nat} {e : Nat} (hse : s < e ∧ e ≤ len) {D : Nat} (hD : 4 ≤ D) : ∀ (r j : Nat) (o : Option Value), j + r = 24 → (∀ i, i < j → ¬ MW by_ s e i) → ∃ k, k < 1000 ∧ WRD by_ s e k ∧ G_X7_wordAt_8 D (nI s) (nI e) (nI (300 + j)) (nI s) 1 (nI (offW j)) o h = some (.int (nI k), h) := by
  intro r
  induction r with
  | zero =>
    intro j o hj hn
    have : j = 24 := by omega
    subst this
    refine ⟨260, by decide, Or.inr ⟨rfl, hn⟩, ?_⟩
    rw [S_X7_wordAt_8 L, s_wl L (by omega), cI_some, offW24, if_neg (by decide)]
    rfl
  | succ r ih =>
    intro j o hj hn
    have q := w_like L hl hb hse hD (j := j) (by omega) (wds.getD j []).length 0 o (by omega) (by omega) (fun t z => absurd z (Nat.not_lt_zero t))
    rw [Nat.add_zero, Nat.add_zero] at q
    rcases q with ⟨q1, q2⟩ | ⟨q1, o', q2⟩
    · exact ⟨300 + j, by omega, Or.inl ⟨j, by omega, rfl, q1⟩, q2⟩
    · obtain ⟨k, k1, k2, k3⟩ := ih (j + 1) o' (by omega) (fun i hi => by
        rcases Nat.lt_or_ge i j with z | z
        · exact hn i z
        · have : i = j := by omega
          rw [this]; exact q1)
      exact ⟨k, k1, k2, by rw [q2, k3]⟩
theorem c_word {h : MH} (L : lay h) {by_ : Nat → Nat} {len : Nat} (hl : len ≤ 300) (hb : ∀ j, j < 300 → gI h 51 j = nI (by_ j) ∧ by_ j < 256) {s : Nat} {e : Nat} (hse : s < e ∧ e ≤ len) {D : Nat} (hD : 5 ≤ D) : ∃ k, k < 1000 ∧ WRD by_ s e k ∧ F_X7_wordAt D (nI s) (nI e) h = some (.int (nI k), h) := by
  obtain ⟨d, rfl⟩ : ∃ d, D = d + 1 := ⟨D - 1, by omega⟩
  obtain ⟨k, k1, k2, k3⟩ := w_all L hl hb hse (D := d) (by omega) 24 0 none rfl (fun i z => absurd z (Nat.not_lt_zero i))
  refine ⟨k, k1, k2, ?_⟩
  rw [S_X7_wordAt L]
  exact k3
end WAT
